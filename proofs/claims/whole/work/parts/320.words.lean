-- own text: words, unheard: the cases
theorem e_wrong {p lo n hi : Int} (h : zr p) (h1 : zr lo) (h2 : zr n) (h3 : zr hi) : g_M_wrongSteps p lo n hi = some (if 0 ≤ p ∧ p < 36 then (if lo ≤ n then (if n ≤ hi then 0 else -6) else -4) else -1) := by
  refine ev_is ?_
  unfold g_M_wrongSteps
  by_cases c : 0 ≤ p ∧ p < 36
  · refine ev_c1 (e_MsqT h c) (ev_g (by decide) (ev_f (by decide) (ev_g h1 (ev_g h2 ?_))))
    rw [if_pos c]
    refine ev_if (fun c1 => ev_g h3 ?_) (fun c1 => ev_some (by rw [if_neg c1]))
    exact ev_if (fun c2 => ev_some (by rw [if_pos c1, if_pos c2])) (fun c2 => ev_some (by rw [if_pos c1, if_neg c2]))
  · exact ev_c1 (e_MsqF h c) (ev_g (by decide) (ev_t rfl (ev_some (by rw [if_neg c]))))
theorem e_chkW (ra : Nat → Int) {p n : Int} (h : zr p) (h2 : zr n) : g_X_checkWithin ra p n = some (if 0 ≤ p ∧ p < 36 then (if 0 ≤ n then (if n ≤ 20 then (0, ra) else (-6, updI ra 6 (ra 6 + 1))) else (-4, updI ra 4 (ra 4 + 1))) else (-1, updI ra 1 (ra 1 + 1))) := by
  refine ev_is ?_
  unfold g_X_checkWithin
  by_cases c : 0 ≤ p ∧ p < 36
  · refine ev_c1 (e_sqT h c) (ev_g (by decide) (ev_f (by decide) (ev_g h2 ?_)))
    rw [if_pos c]
    refine ev_if (fun c1 => ?_) (fun c1 => ev_c2 (er_4 ra) (ev_some (by rw [if_neg c1])))
    exact ev_if (fun c2 => ev_some (by rw [if_pos c1, if_pos c2])) (fun c2 => ev_c2 (er_6 ra) (ev_some (by rw [if_pos c1, if_neg c2])))
  · exact ev_c1 (e_sqF h c) (ev_g (by decide) (ev_t rfl (ev_c2 (er_1 ra) (ev_some (by rw [if_neg c])))))
theorem m_wordsOf {K s ra rb : Nat → Int} {h a b : Int} (ish now th mo ne : Nat → Int) (hK : zK K) (hs : zR s K) (hr : iRef ra rb) (ha : zr a) (hb : zr b) (hh : zr h) : ev2 (zb2 (g_X_checkWithin ra a b) fun (r1 : Int) (ra2 : Nat → Int) => zg (zr r1) <| if (0 : Int) ≤ r1 then (zb1 (g_Talks_hush ish K h) fun (ish5 : Nat → Int) => zb3 (g_Talks_mostWords ish5 now th K a b) fun (r7 : Int) (n8 : Nat → Int) (t9 : Nat → Int) => some (r7, ra2, ish5, n8, t9)) else (some (r1, ra2, ish, now, th))) (zb1 (g_M_wrongSteps a (0 : Int) b (20 : Int)) fun (r1 : Int) => zg (zr r1) <| if r1 = (0 : Int) then (zb3 (g_M_mostIn mo ne s a b h) fun (r4 : Int) (mo5 : Nat → Int) (ne6 : Nat → Int) => some (r4, mo5, ne6, rb)) else (zb2 (g_M_no rb r1) fun (r8 : Int) (rb9 : Nat → Int) => some (r8, mo, ne, rb9))) (fun x y => x.1 = y.1 ∧ iRef x.2.1 y.2.2.2) := by
  rw [e_chkW ra ha hb]
  refine r_c1 (e_wrong ha (by decide) hb (by decide)) ?_
  by_cases c : 0 ≤ a ∧ a < 36
  · rw [if_pos c, if_pos c]
    by_cases c1 : 0 ≤ b
    · rw [if_pos c1, if_pos c1]
      by_cases c2 : b ≤ 20
      · rw [if_pos c2, if_pos c2]
        obtain ⟨p, rfl⟩ := Int.eq_ofNat_of_zero_le c.1
        have hp : p < 36 := by omega
        refine r_g (by decide) (r_t rfl (l_c2 rfl (l_g (by decide) (l_t (by decide) ?_))))
        refine e2_ev (ev_b1 (e_hush hK ish hh) (fun i2 hi => ev_b3 (e_mostWords hK now th hi hp c1 c2) (fun r7 n8 t9 h7 => ev_some (ev_b3 (e_M_mostIn hs hK mo ne hh hp c1 c2) (fun r4 m5 n6 h4 => ev_some ⟨?_, hr⟩)))))
        exact (show r7 = _ from h7).trans (show r4 = _ from h4).symm
      · rw [if_neg c2, if_neg c2]
        exact r_g (by decide) (r_f (by decide) (l_c2 rfl (l_g (by decide) (l_f (by decide) (r_c2 (en_6 rb) (e2_some ⟨rfl, iRef_up hr 6 (by decide)⟩))))))
    · rw [if_neg c1, if_neg c1]
      exact r_g (by decide) (r_f (by decide) (l_c2 rfl (l_g (by decide) (l_f (by decide) (r_c2 (en_4 rb) (e2_some ⟨rfl, iRef_up hr 4 (by decide)⟩))))))
  · rw [if_neg c, if_neg c]
    exact r_g (by decide) (r_f (by decide) (l_c2 rfl (l_g (by decide) (l_f (by decide) (r_c2 (en_1 rb) (e2_some ⟨rfl, iRef_up hr 1 (by decide)⟩))))))
theorem m_words {K s ra rb : Nat → Int} {a b : Int} (ish now th mo ne : Nat → Int) (hK : zK K) (hs : zR s K) (hr : iRef ra rb) (ha : zr a) (hb : zr b) : ev2 (g_X_words ra ish now th K a b) (g_M_words mo ne rb s a b) (fun x y => x.1 = y.1 ∧ iRef x.2.1 y.2.2.2) := m_wordsOf ish now th mo ne hK hs hr ha hb (by decide)
theorem m_unheard {K s ra rb : Nat → Int} {a b : Int} (ish now th mo ne : Nat → Int) (hK : zK K) (hs : zR s K) (hr : iRef ra rb) (ha : zr a) (hb : zr b) : ev2 (g_X_unheard ra ish now th K a b) (g_M_unheard mo ne rb s a b) (fun x y => x.1 = y.1 ∧ iRef x.2.1 y.2.2.2) := m_wordsOf ish now th mo ne hK hs hr ha hb (by decide)
