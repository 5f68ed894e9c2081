-- own text: refusals and the easy methods
theorem zn_v {α ρ : Type} {x : α} {k : α → Option ρ} : zn x k = k x := rfl
theorem er_1 (ra : Nat → Int) : g_X_refuse ra (-1 : Int) = some (-1, updI ra 1 (ra 1 + 1)) := by
  unfold g_X_refuse
  rw [zb1_t (e_at (n := 7) (by decide) (by decide)), zb1_t (e_put (n := 7) (by decide) (by decide))]
  rfl
theorem en_1 (ra : Nat → Int) : g_M_no ra (-1 : Int) = some (-1, updI ra 1 (ra 1 + 1)) := by
  unfold g_M_no
  rw [zn_v, zg_t (by decide)]
  rfl
theorem er_2 (ra : Nat → Int) : g_X_refuse ra (-2 : Int) = some (-2, updI ra 2 (ra 2 + 1)) := by
  unfold g_X_refuse
  rw [zb1_t (e_at (n := 7) (by decide) (by decide)), zb1_t (e_put (n := 7) (by decide) (by decide))]
  rfl
theorem en_2 (ra : Nat → Int) : g_M_no ra (-2 : Int) = some (-2, updI ra 2 (ra 2 + 1)) := by
  unfold g_M_no
  rw [zn_v, zg_t (by decide)]
  rfl
theorem er_3 (ra : Nat → Int) : g_X_refuse ra (-3 : Int) = some (-3, updI ra 3 (ra 3 + 1)) := by
  unfold g_X_refuse
  rw [zb1_t (e_at (n := 7) (by decide) (by decide)), zb1_t (e_put (n := 7) (by decide) (by decide))]
  rfl
theorem en_3 (ra : Nat → Int) : g_M_no ra (-3 : Int) = some (-3, updI ra 3 (ra 3 + 1)) := by
  unfold g_M_no
  rw [zn_v, zg_t (by decide)]
  rfl
theorem er_4 (ra : Nat → Int) : g_X_refuse ra (-4 : Int) = some (-4, updI ra 4 (ra 4 + 1)) := by
  unfold g_X_refuse
  rw [zb1_t (e_at (n := 7) (by decide) (by decide)), zb1_t (e_put (n := 7) (by decide) (by decide))]
  rfl
theorem en_4 (ra : Nat → Int) : g_M_no ra (-4 : Int) = some (-4, updI ra 4 (ra 4 + 1)) := by
  unfold g_M_no
  rw [zn_v, zg_t (by decide)]
  rfl
theorem er_5 (ra : Nat → Int) : g_X_refuse ra (-5 : Int) = some (-5, updI ra 5 (ra 5 + 1)) := by
  unfold g_X_refuse
  rw [zb1_t (e_at (n := 7) (by decide) (by decide)), zb1_t (e_put (n := 7) (by decide) (by decide))]
  rfl
theorem en_5 (ra : Nat → Int) : g_M_no ra (-5 : Int) = some (-5, updI ra 5 (ra 5 + 1)) := by
  unfold g_M_no
  rw [zn_v, zg_t (by decide)]
  rfl
theorem er_6 (ra : Nat → Int) : g_X_refuse ra (-6 : Int) = some (-6, updI ra 6 (ra 6 + 1)) := by
  unfold g_X_refuse
  rw [zb1_t (e_at (n := 7) (by decide) (by decide)), zb1_t (e_put (n := 7) (by decide) (by decide))]
  rfl
theorem en_6 (ra : Nat → Int) : g_M_no ra (-6 : Int) = some (-6, updI ra 6 (ra 6 + 1)) := by
  unfold g_M_no
  rw [zn_v, zg_t (by decide)]
  rfl
theorem iRef_up {a b : Nat → Int} (h : iRef a b) (k : Nat) (hk : k < 7) : iRef (updI a k (a k + 1)) (updI b k (b k + 1)) := by
  intro i hi
  show (if i = k then a k + 1 else a i) = (if i = k then b k + 1 else b i)
  rw [h i hi, h k hk]
theorem iRow_up {n lim : Int} {a b : Nat → Int} {lo hi c : Int} (h : iRow n lim a b lo hi) (h1 : lo ≤ c) (h2 : c ≤ hi) (h3 : n < lim) : iRow (n + 1) lim (updI a n.toNat c) (updI b n.toNat c) lo hi := by
  obtain ⟨q1, q2, q3⟩ := h
  refine ⟨by omega, by omega, fun i hl => ?_⟩
  show (if i = n.toNat then c else a i) = (if i = n.toNat then c else b i) ∧ lo ≤ (if i = n.toNat then c else a i) ∧ (if i = n.toNat then c else a i) ≤ hi
  by_cases e : i = n.toNat
  · rw [if_pos e, if_pos e]; exact ⟨rfl, h1, h2⟩
  · rw [if_neg e, if_neg e]; exact q3 i (by omega)
theorem e_size (c : Int) : g_Letters_size c = some c := rfl
theorem e_append {n : Int} {la : Nat → Int} {c : Int} (h1 : 0 ≤ n) (h2 : n < 96) : g_Letters_append n la c = some (n + 1, updI la n.toNat c) := by
  have ep : g_Numbers_put 96 la n c = some (updI la n.toNat c) := by rw [e_put (n := 96) (by decide) (by omega), if_pos (by omega)]
  refine ev_is ?_
  unfold g_Letters_append
  refine ev_g (by omega) (ev_f (by omega) ?_)
  refine ev_c1 ep ?_
  exact ev_n (ev_some rfl)
theorem m_letter {n : Int} {la lb ra rb : Nat → Int} {c : Int} (hL : iRow n 96 la lb 0 255) (hr : iRef ra rb) (hc : zr c) : ev (g_X_letter n la ra c) (fun x => ev (g_M_letter n lb rb c) (fun y => x.1 = y.1 ∧ x.2.1 = y.2.1 ∧ iRow x.2.1 96 x.2.2.1 y.2.2.1 0 255 ∧ iRef x.2.2.2 y.2.2.2)) := by
  have h1 := hL.1
  have h2 := hL.2.1
  unfold g_X_letter g_M_letter
  repeat' (first
    | with_reducible refine ev_g (by omega) ?_
    | with_reducible refine ev_n ?_
    | with_reducible refine ev_i1 ?_
    | with_reducible refine ev_i2 ?_
    | with_reducible refine ev_i3 ?_
    | with_reducible refine ev_i4 ?_
    | with_reducible refine ev_c2 (er_1 _) ?_
    | with_reducible refine ev_c2 (er_2 _) ?_
    | with_reducible refine ev_c2 (er_3 _) ?_
    | with_reducible refine ev_c2 (er_4 _) ?_
    | with_reducible refine ev_c2 (er_5 _) ?_
    | with_reducible refine ev_c2 (er_6 _) ?_
    | with_reducible refine ev_c2 (en_1 _) ?_
    | with_reducible refine ev_c2 (en_2 _) ?_
    | with_reducible refine ev_c2 (en_3 _) ?_
    | with_reducible refine ev_c2 (en_4 _) ?_
    | with_reducible refine ev_c2 (en_5 _) ?_
    | with_reducible refine ev_c2 (en_6 _) ?_
    | with_reducible refine ev_c1 (e_size _) ?_
    | with_reducible refine ev_c2 (e_append (by omega) (by omega)) ?_
    | with_reducible refine ev_t (by omega) ?_
    | with_reducible refine ev_f (by omega) ?_
    | with_reducible refine ev_if (fun _ => ?_) (fun _ => ?_)
    | with_reducible refine ev_some ?_)
  all_goals first
    | exact ⟨rfl, rfl, hL, iRef_up hr _ (by decide)⟩
    | exact ⟨rfl, rfl, iRow_up hL (by omega) (by omega) (by omega), hr⟩
theorem m_row {n : Int} {la lb ra rb : Nat → Int} {c : Int} (hL : iRow n 20 la lb 0 9) (hr : iRef ra rb) (hc : zr c) : ev (g_X_row n ra la c) (fun x => ev (g_M_row n rb lb c) (fun y => x.1 = y.1 ∧ x.2.1 = y.2.1 ∧ iRef x.2.2.1 y.2.2.1 ∧ iRow x.2.1 20 x.2.2.2 y.2.2.2 0 9)) := by
  have h1 := hL.1
  have h2 := hL.2.1
  have ep : 0 ≤ n → n < 20 → g_Numbers_put 20 la n c = some (updI la n.toNat c) := fun h1 h2 => by rw [e_put (n := 20) (by decide) (by omega), if_pos (by omega)]
  unfold g_X_row g_M_row
  repeat' (first
    | with_reducible refine ev_g (by omega) ?_
    | with_reducible refine ev_n ?_
    | with_reducible refine ev_i1 ?_
    | with_reducible refine ev_i2 ?_
    | with_reducible refine ev_i3 ?_
    | with_reducible refine ev_i4 ?_
    | with_reducible refine ev_c2 (er_1 _) ?_
    | with_reducible refine ev_c2 (er_2 _) ?_
    | with_reducible refine ev_c2 (er_3 _) ?_
    | with_reducible refine ev_c2 (er_4 _) ?_
    | with_reducible refine ev_c2 (er_5 _) ?_
    | with_reducible refine ev_c2 (er_6 _) ?_
    | with_reducible refine ev_c2 (en_1 _) ?_
    | with_reducible refine ev_c2 (en_2 _) ?_
    | with_reducible refine ev_c2 (en_3 _) ?_
    | with_reducible refine ev_c2 (en_4 _) ?_
    | with_reducible refine ev_c2 (en_5 _) ?_
    | with_reducible refine ev_c2 (en_6 _) ?_
    | with_reducible refine ev_c1 (ep (by omega) (by omega)) ?_
    | with_reducible refine ev_t (by omega) ?_
    | with_reducible refine ev_f (by omega) ?_
    | with_reducible refine ev_if (fun _ => ?_) (fun _ => ?_)
    | with_reducible refine ev_some ?_)
  all_goals first
    | exact ⟨rfl, rfl, iRef_up hr _ (by decide), hL⟩
    | exact ⟨rfl, rfl, hr, iRow_up hL (by omega) (by omega) (by omega)⟩
theorem e_kindOf {K : Nat → Int} {q : Nat} (h : q < 36) : g_Town_kindOf K (q : Int) = some (K q) := by
  unfold g_Town_kindOf
  rw [zb1_t (e_atN (by decide) h)]
theorem e_sqF {q : Int} (h : zr q) (h2 : ¬ (0 ≤ q ∧ q < 36)) : g_X_isSquare q = some 0 := by rw [e_isSquare h, if_neg h2]
theorem e_sqT {q : Int} (h : zr q) (h2 : 0 ≤ q ∧ q < 36) : g_X_isSquare q = some 1 := by rw [e_isSquare h, if_pos h2]
theorem e_MsqF {q : Int} (h : zr q) (h2 : ¬ (0 ≤ q ∧ q < 36)) : g_M_isSquare q = some 0 := by rw [e_M_isSquare h, if_neg h2]
theorem e_MsqT {q : Int} (h : zr q) (h2 : 0 ≤ q ∧ q < 36) : g_M_isSquare q = some 1 := by rw [e_M_isSquare h, if_pos h2]
theorem e_M_isIn {v a b : Int} (hv : zr v) (ha : zr a) (hb : zr b) : g_M_isIn v a b = some (if a ≤ v ∧ v ≤ b then 1 else 0) := by
  unfold g_M_isIn
  rw [zg_t hv, zg_t ha]
  by_cases h : v < a
  · rw [if_pos h, if_neg (by omega)]
  · rw [if_neg h, zg_t hb]
    by_cases h2 : b < v
    · rw [if_pos h2, if_neg (by omega)]
    · rw [if_neg h2, if_pos (by omega)]
theorem e_inT {v a b : Int} (hv : zr v) (ha : zr a) (hb : zr b) (h : a ≤ v ∧ v ≤ b) : g_M_isIn v a b = some 1 := by rw [e_M_isIn hv ha hb, if_pos h]
theorem e_inF {v a b : Int} (hv : zr v) (ha : zr a) (hb : zr b) (h : ¬ (a ≤ v ∧ v ≤ b)) : g_M_isIn v a b = some 0 := by rw [e_M_isIn hv ha hb, if_neg h]
theorem e_canT {K : Nat → Int} (hK : zK K) {q : Nat} (h : q < 36) (hc : zcan (K q)) : g_Town_canBe K (q : Int) = some 1 := by rw [e_canBe hK (by omega), if_pos ⟨by omega, by omega, by rw [Int.toNat_natCast]; exact hc⟩]
theorem e_canF {K : Nat → Int} (hK : zK K) {q : Nat} (h : q < 36) (hc : ¬ zcan (K q)) : g_Town_canBe K (q : Int) = some 0 := by rw [e_canBe hK (by omega), if_neg (fun x => hc (by have := x.2.2; rw [Int.toNat_natCast] at this; exact this))]
theorem e_McanT {s K : Nat → Int} (hs : zR s K) (hK : zK K) {q : Nat} (h : q < 36) (hc : zcan (K q)) : g_M_canBe s (q : Int) = some 1 := by rw [e_M_canBe hs hK h, if_pos hc]
theorem e_McanF {s K : Nat → Int} (hs : zR s K) (hK : zK K) {q : Nat} (h : q < 36) (hc : ¬ zcan (K q)) : g_M_canBe s (q : Int) = some 0 := by rw [e_M_canBe hs hK h, if_neg hc]
theorem m_square {K s ra rb : Nat → Int} {a b : Int} (hK : zK K) (hs : zR s K) (hr : iRef ra rb) (ha : zr a) (hb : zr b) : ev (g_X_square ra K a b) (fun x => ev (g_M_square rb s a b) (fun y => x.1 = y.1 ∧ iRef x.2 y.2)) := by
  unfold g_X_square g_M_square
  by_cases h : 0 ≤ a ∧ a < 36
  · obtain ⟨q, rfl⟩ := Int.eq_ofNat_of_zero_le h.1
    have hq : q < 36 := by omega
    have e1 : s (q : Int).toNat = K q := by rw [Int.toNat_natCast]; exact hs q hq
    by_cases hc : zcan (K q) <;> by_cases ht : ztn (K q) <;>
    repeat' (first
    | with_reducible refine ev_g (by omega) ?_
    | with_reducible refine ev_n ?_
    | with_reducible refine ev_i1 ?_
    | with_reducible refine ev_i2 ?_
    | with_reducible refine ev_i3 ?_
    | with_reducible refine ev_i4 ?_
    | with_reducible refine ev_c2 (er_1 _) ?_
    | with_reducible refine ev_c2 (er_2 _) ?_
    | with_reducible refine ev_c2 (er_3 _) ?_
    | with_reducible refine ev_c2 (er_4 _) ?_
    | with_reducible refine ev_c2 (er_5 _) ?_
    | with_reducible refine ev_c2 (er_6 _) ?_
    | with_reducible refine ev_c2 (en_1 _) ?_
    | with_reducible refine ev_c2 (en_2 _) ?_
    | with_reducible refine ev_c2 (en_3 _) ?_
    | with_reducible refine ev_c2 (en_4 _) ?_
    | with_reducible refine ev_c2 (en_5 _) ?_
    | with_reducible refine ev_c2 (en_6 _) ?_
    | with_reducible refine ev_c1 (e_sqF (by omega) (by omega)) ?_
    | with_reducible refine ev_c1 (e_sqT (by omega) (by omega)) ?_
    | with_reducible refine ev_c1 (e_MsqF (by omega) (by omega)) ?_
    | with_reducible refine ev_c1 (e_MsqT (by omega) (by omega)) ?_
    | with_reducible refine ev_c1 (e_inT (by omega) (by omega) (by omega) (by omega)) ?_
    | with_reducible refine ev_c1 (e_inF (by omega) (by omega) (by omega) (by omega)) ?_
    | with_reducible refine ev_c1 (e_kindOf hq) ?_
    | with_reducible refine ev_c1 (e_canT hK hq hc) ?_
    | with_reducible refine ev_c1 (e_canF hK hq hc) ?_
    | with_reducible refine ev_c1 (e_McanT hs hK hq hc) ?_
    | with_reducible refine ev_c1 (e_McanF hs hK hq hc) ?_
    | with_reducible refine ev_c1 (e_words hK hq) ?_
    | with_reducible refine ev_c1 (e_M_words hs hK hq) ?_
    | with_reducible refine ev_c1 (e_hearing hK hq) ?_
    | with_reducible refine ev_c1 (by rw [e1]; exact e_M_hears (hK q hq)) ?_
    | with_reducible refine ev_c1 (by rw [e_turns hK hq, if_pos ht]) ?_
    | with_reducible refine ev_c1 (by rw [e_turns hK hq, if_neg ht]) ?_
    | with_reducible refine ev_c1 (by rw [e_M_turned hs hK hq, if_pos ht]) ?_
    | with_reducible refine ev_c1 (by rw [e_M_turned hs hK hq, if_neg ht]) ?_
    | with_reducible refine ev_t (by omega) ?_
    | with_reducible refine ev_f (by omega) ?_
    | with_reducible refine ev_if (fun _ => ?_) (fun _ => ?_)
    | with_reducible refine ev_some ?_)
    all_goals first
      | exact ⟨rfl, iRef_up hr _ (by decide)⟩
      | exact ⟨rfl, hr⟩
      | exact ⟨e1.symm, hr⟩
  · repeat' (first
    | with_reducible refine ev_g (by omega) ?_
    | with_reducible refine ev_n ?_
    | with_reducible refine ev_i1 ?_
    | with_reducible refine ev_i2 ?_
    | with_reducible refine ev_i3 ?_
    | with_reducible refine ev_i4 ?_
    | with_reducible refine ev_c2 (er_1 _) ?_
    | with_reducible refine ev_c2 (er_2 _) ?_
    | with_reducible refine ev_c2 (er_3 _) ?_
    | with_reducible refine ev_c2 (er_4 _) ?_
    | with_reducible refine ev_c2 (er_5 _) ?_
    | with_reducible refine ev_c2 (er_6 _) ?_
    | with_reducible refine ev_c2 (en_1 _) ?_
    | with_reducible refine ev_c2 (en_2 _) ?_
    | with_reducible refine ev_c2 (en_3 _) ?_
    | with_reducible refine ev_c2 (en_4 _) ?_
    | with_reducible refine ev_c2 (en_5 _) ?_
    | with_reducible refine ev_c2 (en_6 _) ?_
    | with_reducible refine ev_c1 (e_sqF (by omega) (by omega)) ?_
    | with_reducible refine ev_c1 (e_sqT (by omega) (by omega)) ?_
    | with_reducible refine ev_c1 (e_MsqF (by omega) (by omega)) ?_
    | with_reducible refine ev_c1 (e_MsqT (by omega) (by omega)) ?_
    | with_reducible refine ev_c1 (e_inT (by omega) (by omega) (by omega) (by omega)) ?_
    | with_reducible refine ev_c1 (e_inF (by omega) (by omega) (by omega) (by omega)) ?_
    | with_reducible refine ev_t (by omega) ?_
    | with_reducible refine ev_f (by omega) ?_
    | with_reducible refine ev_if (fun _ => ?_) (fun _ => ?_)
    | with_reducible refine ev_some ?_)
    all_goals exact ⟨rfl, iRef_up hr _ (by decide)⟩
theorem m_heard {K s ra rb : Nat → Int} {a : Int} (hK : zK K) (hs : zR s K) (hr : iRef ra rb) (ha : zr a) : ev (g_X_heard ra K a) (fun x => ev (g_M_heard rb s a) (fun y => x.1 = y.1 ∧ iRef x.2 y.2)) := by
  unfold g_X_heard g_M_heard
  by_cases h : 0 ≤ a ∧ a < 36
  · obtain ⟨q, rfl⟩ := Int.eq_ofNat_of_zero_le h.1
    have hq : q < 36 := by omega
    repeat' (first
    | with_reducible refine ev_g (by omega) ?_
    | with_reducible refine ev_n ?_
    | with_reducible refine ev_i1 ?_
    | with_reducible refine ev_i2 ?_
    | with_reducible refine ev_i3 ?_
    | with_reducible refine ev_i4 ?_
    | with_reducible refine ev_c2 (er_1 _) ?_
    | with_reducible refine ev_c2 (er_2 _) ?_
    | with_reducible refine ev_c2 (er_3 _) ?_
    | with_reducible refine ev_c2 (er_4 _) ?_
    | with_reducible refine ev_c2 (er_5 _) ?_
    | with_reducible refine ev_c2 (er_6 _) ?_
    | with_reducible refine ev_c2 (en_1 _) ?_
    | with_reducible refine ev_c2 (en_2 _) ?_
    | with_reducible refine ev_c2 (en_3 _) ?_
    | with_reducible refine ev_c2 (en_4 _) ?_
    | with_reducible refine ev_c2 (en_5 _) ?_
    | with_reducible refine ev_c2 (en_6 _) ?_
    | with_reducible refine ev_c1 (e_sqF (by omega) (by omega)) ?_
    | with_reducible refine ev_c1 (e_sqT (by omega) (by omega)) ?_
    | with_reducible refine ev_c1 (e_MsqF (by omega) (by omega)) ?_
    | with_reducible refine ev_c1 (e_MsqT (by omega) (by omega)) ?_
    | with_reducible refine ev_c1 (e_inT (by omega) (by omega) (by omega) (by omega)) ?_
    | with_reducible refine ev_c1 (e_inF (by omega) (by omega) (by omega) (by omega)) ?_
    | with_reducible refine ev_c1 (e_heardBy hK hq) ?_
    | with_reducible refine ev_c1 (e_M_heardBy hs hK hq) ?_
    | with_reducible refine ev_t (by omega) ?_
    | with_reducible refine ev_f (by omega) ?_
    | with_reducible refine ev_if (fun _ => ?_) (fun _ => ?_)
    | with_reducible refine ev_some ?_)
    all_goals exact ⟨rfl, hr⟩
  · repeat' (first
    | with_reducible refine ev_g (by omega) ?_
    | with_reducible refine ev_n ?_
    | with_reducible refine ev_i1 ?_
    | with_reducible refine ev_i2 ?_
    | with_reducible refine ev_i3 ?_
    | with_reducible refine ev_i4 ?_
    | with_reducible refine ev_c2 (er_1 _) ?_
    | with_reducible refine ev_c2 (er_2 _) ?_
    | with_reducible refine ev_c2 (er_3 _) ?_
    | with_reducible refine ev_c2 (er_4 _) ?_
    | with_reducible refine ev_c2 (er_5 _) ?_
    | with_reducible refine ev_c2 (er_6 _) ?_
    | with_reducible refine ev_c2 (en_1 _) ?_
    | with_reducible refine ev_c2 (en_2 _) ?_
    | with_reducible refine ev_c2 (en_3 _) ?_
    | with_reducible refine ev_c2 (en_4 _) ?_
    | with_reducible refine ev_c2 (en_5 _) ?_
    | with_reducible refine ev_c2 (en_6 _) ?_
    | with_reducible refine ev_c1 (e_sqF (by omega) (by omega)) ?_
    | with_reducible refine ev_c1 (e_sqT (by omega) (by omega)) ?_
    | with_reducible refine ev_c1 (e_MsqF (by omega) (by omega)) ?_
    | with_reducible refine ev_c1 (e_MsqT (by omega) (by omega)) ?_
    | with_reducible refine ev_c1 (e_inT (by omega) (by omega) (by omega) (by omega)) ?_
    | with_reducible refine ev_c1 (e_inF (by omega) (by omega) (by omega) (by omega)) ?_
    | with_reducible refine ev_t (by omega) ?_
    | with_reducible refine ev_f (by omega) ?_
    | with_reducible refine ev_if (fun _ => ?_) (fun _ => ?_)
    | with_reducible refine ev_some ?_)
    all_goals exact ⟨rfl, iRef_up hr _ (by decide)⟩
