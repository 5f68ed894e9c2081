theorem s_Numbers_at {n : Nat} {g_allf : Nat → Int32} {g_all : Nat → Int} {p1f : Int32} {p1 : Int} {R0 : Int} (eg_all : g_allf = zoA g_all) (ep1 : p1f = zo p1) (he : g_Numbers_at n g_all p1 = some (R0)) : f_Numbers_at n g_allf p1f = some (zo R0) := by
  subst eg_all
  subst ep1
  unfold g_Numbers_at at he
  unfold f_Numbers_at
  obtain ⟨hn1, he⟩ := zg_e he
  by_cases c2 : p1 < (0 : Int)
  · have he := zif_t c2 he
    refine zif_p ((zo_lt rfl (zo_l 0) hn1 (by decide)).mpr c2) ?_
    obtain ⟨rfl⟩ := zi1 he
    exact zs1 (zo_l 0)
  · have he := zif_f c2 he
    refine zif_n (fun q => c2 ((zo_lt rfl (zo_l 0) hn1 (by decide)).mp q)) ?_
    obtain ⟨hn3, he⟩ := zg_e he
    by_cases c4 : ((n : Nat) : Int) ≤ p1
    · have he := zif_t c4 he
      refine zif_p ((zo_le (zo_nI n) rfl hn3 hn1).mpr c4) ?_
      obtain ⟨rfl⟩ := zi1 he
      exact zs1 (zo_l 0)
    · have he := zif_f c4 he
      refine zif_n (fun q => c4 ((zo_le (zo_nI n) rfl hn3 hn1).mp q)) ?_
      obtain ⟨hg6, he⟩ := zg_e he
      have hg5 := zin4 hg6
      refine zg_z (zo_in rfl hg5) ?_
      obtain ⟨rfl⟩ := zi1 he
      exact zs1 (zo_rd rfl rfl hg5)
theorem s_Numbers_put {n : Nat} {g_allf : Nat → Int32} {g_all : Nat → Int} {p1f : Int32} {p1 : Int} {p2f : Int32} {p2 : Int} {R0 : Nat → Int} (eg_all : g_allf = zoA g_all) (ep1 : p1f = zo p1) (ep2 : p2f = zo p2) (he : g_Numbers_put n g_all p1 p2 = some (R0)) : f_Numbers_put n g_allf p1f p2f = some (zoA R0) := by
  subst eg_all
  subst ep1
  subst ep2
  unfold g_Numbers_put at he
  unfold f_Numbers_put
  obtain ⟨hn1, he⟩ := zg_e he
  by_cases c2 : p1 < (0 : Int)
  · have he := zif_t c2 he
    refine zif_p ((zo_lt rfl (zo_l 0) hn1 (by decide)).mpr c2) ?_
    obtain ⟨rfl⟩ := zi1 he
    exact zs1 rfl
  · have he := zif_f c2 he
    refine zif_n (fun q => c2 ((zo_lt rfl (zo_l 0) hn1 (by decide)).mp q)) ?_
    obtain ⟨hn3, he⟩ := zg_e he
    by_cases c4 : ((n : Nat) : Int) ≤ p1
    · have he := zif_t c4 he
      refine zif_p ((zo_le (zo_nI n) rfl hn3 hn1).mpr c4) ?_
      obtain ⟨rfl⟩ := zi1 he
      exact zs1 rfl
    · have he := zif_f c4 he
      refine zif_n (fun q => c4 ((zo_le (zo_nI n) rfl hn3 hn1).mp q)) ?_
      obtain ⟨hg6, he⟩ := zg_e he
      have hg5 := zin4 hg6
      refine zg_z (zo_in rfl hg5) ?_
      obtain ⟨g4, hx7⟩ : ∃ y : Nat → Int, y = updI g_all p1.toNat p2 := ⟨_, rfl⟩
      have he := zn_e hx7 he
      refine zn_z (y := zoA g4) ((zo_upd rfl rfl hg5 rfl).trans (congrArg zoA hx7.symm)) ?_
      obtain ⟨rfl⟩ := zi1 he
      exact zs1 rfl
theorem s_X_refuse {g_refused_allf : Nat → Int32} {g_refused_all : Nat → Int} {p1f : Int32} {p1 : Int} {R0 : Int} {R1 : Nat → Int} (eg_refused_all : g_refused_allf = zoA g_refused_all) (ep1 : p1f = zo p1) (he : g_X_refuse g_refused_all p1 = some (R0, R1)) : f_X_refuse g_refused_allf p1f = some (zo R0, zoA R1) := by
  subst eg_refused_all
  subst ep1
  unfold g_X_refuse at he
  unfold f_X_refuse
  obtain ⟨r1, hb1, he⟩ := zb1_e he
  refine (zb1_s (s_Numbers_at rfl (zo_neg rfl) hb1)).trans ?_
  obtain ⟨g_refused_all_3, hb2, he⟩ := zb1_e he
  refine (zb1_s (s_Numbers_put rfl (zo_neg rfl) (zo_add rfl (zo_l 1)) hb2)).trans ?_
  obtain ⟨rfl, rfl⟩ := zi2 he
  exact zs2 rfl rfl
theorem s_Letters_size {v_countf : Int32} {v_count : Int} {R0 : Int} (ev_count : v_countf = zo v_count) (he : g_Letters_size v_count = some (R0)) : f_Letters_size v_countf = some (zo R0) := by
  subst ev_count
  unfold g_Letters_size at he
  unfold f_Letters_size
  obtain ⟨rfl⟩ := zi1 he
  exact zs1 rfl
theorem s_Letters_append {v_countf : Int32} {v_count : Int} {g_all_allf : Nat → Int32} {g_all_all : Nat → Int} {p1f : Int32} {p1 : Int} {R0 : Int} {R1 : Nat → Int} (ev_count : v_countf = zo v_count) (eg_all_all : g_all_allf = zoA g_all_all) (ep1 : p1f = zo p1) (he : g_Letters_append v_count g_all_all p1 = some (R0, R1)) : f_Letters_append v_countf g_all_allf p1f = some (zo R0, zoA R1) := by
  subst ev_count
  subst eg_all_all
  subst ep1
  unfold g_Letters_append at he
  unfold f_Letters_append
  obtain ⟨hn1, he⟩ := zg_e he
  by_cases c2 : (96 : Int) ≤ v_count
  · have he := zif_t c2 he
    refine zif_p ((zo_le (zo_l 96) rfl (by decide) hn1).mpr c2) ?_
    obtain ⟨rfl, rfl⟩ := zi2 he
    exact zs2 rfl rfl
  · have he := zif_f c2 he
    refine zif_n (fun q => c2 ((zo_le (zo_l 96) rfl (by decide) hn1).mp q)) ?_
    obtain ⟨g_all_all_2, hb3, he⟩ := zb1_e he
    refine (zb1_s (s_Numbers_put rfl rfl rfl hb3)).trans ?_
    obtain ⟨x4, hx4⟩ : ∃ y : Int, y = v_count + (1 : Int) := ⟨_, rfl⟩
    have he := zn_e hx4 he
    refine zn_z (y := zo x4) ((zo_add rfl (zo_l 1)).trans (congrArg zo hx4.symm)) ?_
    obtain ⟨rfl, rfl⟩ := zi2 he
    exact zs2 rfl rfl
theorem s_X_letter {v_letters_countf : Int32} {v_letters_count : Int} {g_letters_all_allf : Nat → Int32} {g_letters_all_all : Nat → Int} {g_refused_allf : Nat → Int32} {g_refused_all : Nat → Int} {p1f : Int32} {p1 : Int} {R0 : Int} {R1 : Int} {R2 : Nat → Int} {R3 : Nat → Int} (ev_letters_count : v_letters_countf = zo v_letters_count) (eg_letters_all_all : g_letters_all_allf = zoA g_letters_all_all) (eg_refused_all : g_refused_allf = zoA g_refused_all) (ep1 : p1f = zo p1) (he : g_X_letter v_letters_count g_letters_all_all g_refused_all p1 = some (R0, R1, R2, R3)) : f_X_letter v_letters_countf g_letters_all_allf g_refused_allf p1f = some (zo R0, zo R1, zoA R2, zoA R3) := by
  subst ev_letters_count
  subst eg_letters_all_all
  subst eg_refused_all
  subst ep1
  unfold g_X_letter at he
  unfold f_X_letter
  obtain ⟨hn1, he⟩ := zg_e he
  by_cases c2 : (0 : Int) ≤ p1
  · have he := zif_t c2 he
    refine zif_p ((zo_le (zo_l 0) rfl (by decide) hn1).mpr c2) ?_
    refine zj1_z (m1 := id) he (fun _ he => ?_) (fun k5f k5 hk5 he => ?_)
    · obtain ⟨r2, g_refused_all_3, hb3, he⟩ := zb2_e he
      refine (zb2_s (s_X_refuse rfl (zo_ln 6) hb3)).trans ?_
      obtain ⟨rfl, rfl, rfl, rfl⟩ := zi4 he
      exact zs4 rfl rfl rfl rfl
    by_cases c4 : (255 : Int) < p1
    · have he := zif_t c4 he
      refine zif_p ((zo_lt (zo_l 255) rfl (by decide) hn1).mpr c4) ?_
      exact zk1 hk5 rfl he
    · have he := zif_f c4 he
      refine zif_n (fun q => c4 ((zo_lt (zo_l 255) rfl (by decide) hn1).mp q)) ?_
      obtain ⟨r7, hb5, he⟩ := zb1_e he
      refine (zb1_s (s_Letters_size rfl hb5)).trans ?_
      obtain ⟨hn6, he⟩ := zg_e he
      by_cases c7 : r7 < (96 : Int)
      · have he := zif_t c7 he
        refine zif_p ((zo_lt rfl (zo_l 96) hn6 (by decide)).mpr c7) ?_
        obtain ⟨v_letters_count_10, g_letters_all_all_11, hb8, he⟩ := zb2_e he
        refine (zb2_s (s_Letters_append rfl rfl rfl hb8)).trans ?_
        obtain ⟨r13, hb9, he⟩ := zb1_e he
        refine (zb1_s (s_Letters_size rfl hb9)).trans ?_
        obtain ⟨rfl, rfl, rfl, rfl⟩ := zi4 he
        exact zs4 rfl rfl rfl rfl
      · have he := zif_f c7 he
        refine zif_n (fun q => c7 ((zo_lt rfl (zo_l 96) hn6 (by decide)).mp q)) ?_
        exact zk1 hk5 rfl he
  · have he := zif_f c2 he
    refine zif_n (fun q => c2 ((zo_le (zo_l 0) rfl (by decide) hn1).mp q)) ?_
    obtain ⟨r15, g_refused_all_16, hb10, he⟩ := zb2_e he
    refine (zb2_s (s_X_refuse rfl (zo_ln 4) hb10)).trans ?_
    obtain ⟨rfl, rfl, rfl, rfl⟩ := zi4 he
    exact zs4 rfl rfl rfl rfl
theorem s_Numbers_takeOver {n_p1 : Nat} {n : Nat} {g_p1_allf : Nat → Int32} {g_p1_all : Nat → Int} {g_allf : Nat → Int32} {g_all : Nat → Int} {R0 : Nat → Int} (eg_p1_all : g_p1_allf = zoA g_p1_all) (eg_all : g_allf = zoA g_all) (he : g_Numbers_takeOver n_p1 n g_p1_all g_all = some (R0)) : f_Numbers_takeOver n_p1 n g_p1_allf g_allf = some (zoA R0) := by
  subst eg_p1_all
  subst eg_all
  unfold g_Numbers_takeOver at he
  unfold f_Numbers_takeOver
  refine zl2_z (m1 := zo) (m2 := zoA) (zo_l 0) rfl he (fun l2_1 g_all_2 again3f again3 hagain3 he => ?_)
  obtain ⟨hn1, he⟩ := zg_e he
  obtain ⟨hn2, he⟩ := zg_e he
  by_cases c3 : ((n : Nat) : Int) ≤ l2_1
  · have he := zif_t c3 he
    refine zif_p ((zo_le (zo_nI n) rfl hn1 hn2).mpr c3) ?_
    obtain ⟨rfl⟩ := zi1 he
    exact zs1 rfl
  · have he := zif_f c3 he
    refine zif_n (fun q => c3 ((zo_le (zo_nI n) rfl hn1 hn2).mp q)) ?_
    obtain ⟨r5, hb4, he⟩ := zb1_e he
    refine (zb1_s (s_Numbers_at rfl rfl hb4)).trans ?_
    obtain ⟨hg6, he⟩ := zg_e he
    have hg5 := zin4 hg6
    refine zg_z (zo_in rfl hg5) ?_
    obtain ⟨g8, hx7⟩ : ∃ y : Nat → Int, y = updI g_all_2 l2_1.toNat r5 := ⟨_, rfl⟩
    have he := zn_e hx7 he
    refine zn_z (y := zoA g8) ((zo_upd rfl rfl hg5 rfl).trans (congrArg zoA hx7.symm)) ?_
    obtain ⟨x9, hx8⟩ : ∃ y : Int, y = l2_1 + (1 : Int) := ⟨_, rfl⟩
    have he := zn_e hx8 he
    refine zn_z (y := zo x9) ((zo_add rfl (zo_l 1)).trans (congrArg zo hx8.symm)) ?_
    exact zk2 hagain3 rfl rfl he
theorem s_Town_takeOver {v_p1_breathf : Int32} {v_p1_breath : Int} {v_p1_finef : Int32} {v_p1_fine : Int} {v_p1_homef : Int32} {v_p1_home : Int} {g_p1_kinds_allf : Nat → Int32} {g_p1_kinds_all : Nat → Int} {v_breathf : Int32} {v_breath : Int} {v_finef : Int32} {v_fine : Int} {v_homef : Int32} {v_home : Int} {g_kinds_allf : Nat → Int32} {g_kinds_all : Nat → Int} {R0 : Int} {R1 : Int} {R2 : Int} {R3 : Nat → Int} (ev_p1_breath : v_p1_breathf = zo v_p1_breath) (ev_p1_fine : v_p1_finef = zo v_p1_fine) (ev_p1_home : v_p1_homef = zo v_p1_home) (eg_p1_kinds_all : g_p1_kinds_allf = zoA g_p1_kinds_all) (ev_breath : v_breathf = zo v_breath) (ev_fine : v_finef = zo v_fine) (ev_home : v_homef = zo v_home) (eg_kinds_all : g_kinds_allf = zoA g_kinds_all) (he : g_Town_takeOver v_p1_breath v_p1_fine v_p1_home g_p1_kinds_all v_breath v_fine v_home g_kinds_all = some (R0, R1, R2, R3)) : f_Town_takeOver v_p1_breathf v_p1_finef v_p1_homef g_p1_kinds_allf v_breathf v_finef v_homef g_kinds_allf = some (zo R0, zo R1, zo R2, zoA R3) := by
  subst ev_p1_breath
  subst ev_p1_fine
  subst ev_p1_home
  subst eg_p1_kinds_all
  subst ev_breath
  subst ev_fine
  subst ev_home
  subst eg_kinds_all
  unfold g_Town_takeOver at he
  unfold f_Town_takeOver
  obtain ⟨g_kinds_all_1, hb1, he⟩ := zb1_e he
  refine (zb1_s (s_Numbers_takeOver rfl rfl hb1)).trans ?_
  obtain ⟨rfl, rfl, rfl, rfl⟩ := zi4 he
  exact zs4 rfl rfl rfl rfl
theorem s_Letters_formOf {p0f : Int32} {p0 : Int} {R0 : Nat} (ep0 : p0f = zo p0) (he : g_Letters_formOf p0 = some (R0)) : f_Letters_formOf p0f = some (R0) := by
  subst ep0
  unfold g_Letters_formOf at he
  unfold f_Letters_formOf
  obtain ⟨hn1, he⟩ := zg_e he
  by_cases c2 : p0 = (98 : Int)
  · have he := zif_t c2 he
    refine zif_p ((zo_eq rfl (zo_l 98) hn1 (by decide)).mpr c2) ?_
    obtain ⟨rfl⟩ := zi1 he
    exact zs1 rfl
  · have he := zif_f c2 he
    refine zif_n (fun q => c2 ((zo_eq rfl (zo_l 98) hn1 (by decide)).mp q)) ?_
    by_cases c3 : p0 = (102 : Int)
    · have he := zif_t c3 he
      refine zif_p ((zo_eq rfl (zo_l 102) hn1 (by decide)).mpr c3) ?_
      obtain ⟨rfl⟩ := zi1 he
      exact zs1 rfl
    · have he := zif_f c3 he
      refine zif_n (fun q => c3 ((zo_eq rfl (zo_l 102) hn1 (by decide)).mp q)) ?_
      by_cases c4 : p0 = (104 : Int)
      · have he := zif_t c4 he
        refine zif_p ((zo_eq rfl (zo_l 104) hn1 (by decide)).mpr c4) ?_
        obtain ⟨rfl⟩ := zi1 he
        exact zs1 rfl
      · have he := zif_f c4 he
        refine zif_n (fun q => c4 ((zo_eq rfl (zo_l 104) hn1 (by decide)).mp q)) ?_
        by_cases c5 : p0 = (107 : Int)
        · have he := zif_t c5 he
          refine zif_p ((zo_eq rfl (zo_l 107) hn1 (by decide)).mpr c5) ?_
          obtain ⟨rfl⟩ := zi1 he
          exact zs1 rfl
        · have he := zif_f c5 he
          refine zif_n (fun q => c5 ((zo_eq rfl (zo_l 107) hn1 (by decide)).mp q)) ?_
          by_cases c6 : p0 = (118 : Int)
          · have he := zif_t c6 he
            refine zif_p ((zo_eq rfl (zo_l 118) hn1 (by decide)).mpr c6) ?_
            obtain ⟨rfl⟩ := zi1 he
            exact zs1 rfl
          · have he := zif_f c6 he
            refine zif_n (fun q => c6 ((zo_eq rfl (zo_l 118) hn1 (by decide)).mp q)) ?_
            obtain ⟨rfl⟩ := zi1 he
            exact zs1 rfl
theorem s_String_isEmpty {p0 : Nat} {R0 : Int}  (he : g_String_isEmpty p0 = some (R0)) : f_String_isEmpty p0 = some (zo R0) := by
  unfold g_String_isEmpty at he
  unfold f_String_isEmpty
  obtain ⟨hg1, he⟩ := zg_e he
  refine zg_z hg1 ?_
  refine zg_z hg1 ?_
  obtain ⟨hn3, he⟩ := zg_e he
  by_cases c4 : (((zSL p0) : Nat) : Int) = (0 : Int)
  · have he := zif_t c4 he
    refine zif_p ((zo_eq (zo_nI (zSL p0)) (zo_l 0) hn3 (by decide)).mpr c4) ?_
    obtain ⟨rfl⟩ := zi1 he
    exact zs1 (zo_l 1)
  · have he := zif_f c4 he
    refine zif_n (fun q => c4 ((zo_eq (zo_nI (zSL p0)) (zo_l 0) hn3 (by decide)).mp q)) ?_
    obtain ⟨rfl⟩ := zi1 he
    exact zs1 (zo_l 0)
theorem s_String_coder {p0 : Nat} {R0 : Int}  (he : g_String_coder p0 = some (R0)) : f_String_coder p0 = some (zo R0) := by
  unfold g_String_coder at he
  unfold f_String_coder
  by_cases c1 : (1 : Int) = (0 : Int)
  · have he := zif_t c1 he
    refine zif_p ((zo_eq (zo_l 1) (zo_l 0) (by decide) (by decide)).mpr c1) ?_
    obtain ⟨hg2, he⟩ := zg_e he
    refine zg_z (zo_byte (zo_l 1) hg2) ?_
    obtain ⟨rfl⟩ := zi1 he
    exact zs1 (zo_l 1)
  · have he := zif_f c1 he
    refine zif_n (fun q => c1 ((zo_eq (zo_l 1) (zo_l 0) (by decide) (by decide)).mp q)) ?_
    obtain ⟨hg3, he⟩ := zg_e he
    refine zg_z hg3 ?_
    obtain ⟨hg4, he⟩ := zg_e he
    refine zg_z (zo_byte (zo_l 0) hg4) ?_
    obtain ⟨rfl⟩ := zi1 he
    exact zs1 (zo_l 0)
theorem s_String_length {p0 : Nat} {R0 : Int}  (he : g_String_length p0 = some (R0)) : f_String_length p0 = some (zo R0) := by
  unfold g_String_length at he
  unfold f_String_length
  obtain ⟨hg1, he⟩ := zg_e he
  refine zg_z hg1 ?_
  refine zg_z hg1 ?_
  refine zg_z hg1 ?_
  obtain ⟨r4, hb4, he⟩ := zb1_e he
  refine (zb1_s (s_String_coder  hb4)).trans ?_
  obtain ⟨rfl⟩ := zi1 he
  exact zs1 (zo_shr (zo_nI (zSL p0)) rfl)
theorem s_String_isLatin1 {p0 : Nat} {R0 : Int}  (he : g_String_isLatin1 p0 = some (R0)) : f_String_isLatin1 p0 = some (zo R0) := by
  unfold g_String_isLatin1 at he
  unfold f_String_isLatin1
  by_cases c1 : (1 : Int) = (0 : Int)
  · have he := zif_t c1 he
    refine zif_p ((zo_eq (zo_l 1) (zo_l 0) (by decide) (by decide)).mpr c1) ?_
    obtain ⟨rfl⟩ := zi1 he
    exact zs1 (zo_l 0)
  · have he := zif_f c1 he
    refine zif_n (fun q => c1 ((zo_eq (zo_l 1) (zo_l 0) (by decide) (by decide)).mp q)) ?_
    obtain ⟨hg2, he⟩ := zg_e he
    refine zg_z hg2 ?_
    by_cases c3 : (0 : Int) = (0 : Int)
    · have he := zif_t c3 he
      refine zif_p ((zo_eq (zo_l 0) (zo_l 0) (by decide) (by decide)).mpr c3) ?_
      obtain ⟨rfl⟩ := zi1 he
      exact zs1 (zo_l 1)
    · have he := zif_f c3 he
      refine zif_n (fun q => c3 ((zo_eq (zo_l 0) (zo_l 0) (by decide) (by decide)).mp q)) ?_
      obtain ⟨rfl⟩ := zi1 he
      exact zs1 (zo_l 0)
theorem s_Preconditions_checkIndex {p0f : Int32} {p0 : Int} {p1f : Int32} {p1 : Int} {R0 : Int} (ep0 : p0f = zo p0) (ep1 : p1f = zo p1) (he : g_Preconditions_checkIndex p0 p1 = some (R0)) : f_Preconditions_checkIndex p0f p1f = some (zo R0) := by
  subst ep0
  subst ep1
  unfold g_Preconditions_checkIndex at he
  unfold f_Preconditions_checkIndex
  refine zj1_z (m1 := id) he (fun _ he => ?_) (fun k1f k1 hk1 he => ?_)
  · cases he
  obtain ⟨hn1, he⟩ := zg_e he
  by_cases c2 : p0 < (0 : Int)
  · have he := zif_t c2 he
    refine zif_p ((zo_lt rfl (zo_l 0) hn1 (by decide)).mpr c2) ?_
    exact zk1 hk1 rfl he
  · have he := zif_f c2 he
    refine zif_n (fun q => c2 ((zo_lt rfl (zo_l 0) hn1 (by decide)).mp q)) ?_
    obtain ⟨hn3, he⟩ := zg_e he
    by_cases c4 : p0 < p1
    · have he := zif_t c4 he
      refine zif_p ((zo_lt rfl rfl hn1 hn3).mpr c4) ?_
      obtain ⟨rfl⟩ := zi1 he
      exact zs1 rfl
    · have he := zif_f c4 he
      refine zif_n (fun q => c4 ((zo_lt rfl rfl hn1 hn3).mp q)) ?_
      exact zk1 hk1 rfl he
theorem s_String_checkIndex {p0f : Int32} {p0 : Int} {p1f : Int32} {p1 : Int} (ep0 : p0f = zo p0) (ep1 : p1f = zo p1) (he : g_String_checkIndex p0 p1 = some ()) : f_String_checkIndex p0f p1f = some () := by
  subst ep0
  subst ep1
  unfold g_String_checkIndex at he
  unfold f_String_checkIndex
  obtain ⟨r1, hb1, he⟩ := zb1_e he
  refine (zb1_s (s_Preconditions_checkIndex rfl rfl hb1)).trans ?_
  rfl
theorem s_StringLatin1_charAt {p0 : Nat} {p1f : Int32} {p1 : Int} {R0 : Int} (ep1 : p1f = zo p1) (he : g_StringLatin1_charAt p0 p1 = some (R0)) : f_StringLatin1_charAt p0 p1f = some (zo R0) := by
  subst ep1
  unfold g_StringLatin1_charAt at he
  unfold f_StringLatin1_charAt
  obtain ⟨hg1, he⟩ := zg_e he
  refine zg_z hg1 ?_
  obtain ⟨_, hb2, he⟩ := zb1_e he
  refine (zb1_s (s_String_checkIndex rfl (zo_nI (zSL p0)) hb2)).trans ?_
  refine zg_z hg1 ?_
  obtain ⟨hg5, he⟩ := zg_e he
  have hg4 := zin4 hg5
  refine zg_z (zo_in rfl hg4) ?_
  obtain ⟨hn7, he⟩ := zg_e he
  obtain ⟨hg6, he⟩ := zg_e he
  refine zg_z (zo_char (zo_i2c (zo_and (zo_SB rfl hg4) (zo_l 255)) hn7) hg6) ?_
  obtain ⟨rfl⟩ := zi1 he
  exact zs1 (zo_i2c (zo_and (zo_SB rfl hg4) (zo_l 255)) hn7)
theorem s_String_charAt {p0 : Nat} {p1f : Int32} {p1 : Int} {R0 : Int} (ep1 : p1f = zo p1) (he : g_String_charAt p0 p1 = some (R0)) : f_String_charAt p0 p1f = some (zo R0) := by
  subst ep1
  unfold g_String_charAt at he
  unfold f_String_charAt
  obtain ⟨hg1, he⟩ := zg_e he
  refine zg_z hg1 ?_
  obtain ⟨r2, hb2, he⟩ := zb1_e he
  refine (zb1_s (s_String_isLatin1  hb2)).trans ?_
  obtain ⟨hn3, he⟩ := zg_e he
  by_cases c4 : r2 = (0 : Int)
  · have he := zif_t c4 he
    refine zif_p ((zo_eq rfl (zo_l 0) hn3 (by decide)).mpr c4) ?_
    cases he
  · have he := zif_f c4 he
    refine zif_n (fun q => c4 ((zo_eq rfl (zo_l 0) hn3 (by decide)).mp q)) ?_
    refine zg_z hg1 ?_
    obtain ⟨r6, hb6, he⟩ := zb1_e he
    refine (zb1_s (s_StringLatin1_charAt rfl hb6)).trans ?_
    obtain ⟨hg7, he⟩ := zg_e he
    refine zg_z (zo_char rfl hg7) ?_
    obtain ⟨rfl⟩ := zi1 he
    exact zs1 rfl
theorem s_StringLatin1_canEncode {p0f : Int32} {p0 : Int} {R0 : Int} (ep0 : p0f = zo p0) (he : g_StringLatin1_canEncode p0 = some (R0)) : f_StringLatin1_canEncode p0f = some (zo R0) := by
  subst ep0
  unfold g_StringLatin1_canEncode at he
  unfold f_StringLatin1_canEncode
  obtain ⟨hn1, he⟩ := zg_e he
  by_cases c2 : p0 < (0 : Int)
  · have he := zif_t c2 he
    refine zif_p ((zo_lt rfl (zo_l 0) hn1 (by decide)).mpr c2) ?_
    obtain ⟨rfl⟩ := zi1 he
    exact zs1 (zo_l 0)
  · have he := zif_f c2 he
    refine zif_n (fun q => c2 ((zo_lt rfl (zo_l 0) hn1 (by decide)).mp q)) ?_
    by_cases c3 : (255 : Int) < p0
    · have he := zif_t c3 he
      refine zif_p ((zo_lt (zo_l 255) rfl (by decide) hn1).mpr c3) ?_
      obtain ⟨rfl⟩ := zi1 he
      exact zs1 (zo_l 0)
    · have he := zif_f c3 he
      refine zif_n (fun q => c3 ((zo_lt (zo_l 255) rfl (by decide) hn1).mp q)) ?_
      obtain ⟨rfl⟩ := zi1 he
      exact zs1 (zo_l 1)
theorem s_StringLatin1_indexOfChar {p0 : Nat} {p1f : Int32} {p1 : Int} {p2f : Int32} {p2 : Int} {p3f : Int32} {p3 : Int} {R0 : Int} (ep1 : p1f = zo p1) (ep2 : p2f = zo p2) (ep3 : p3f = zo p3) (he : g_StringLatin1_indexOfChar p0 p1 p2 p3 = some (R0)) : f_StringLatin1_indexOfChar p0 p1f p2f p3f = some (zo R0) := by
  subst ep1
  subst ep2
  subst ep3
  unfold g_StringLatin1_indexOfChar at he
  unfold f_StringLatin1_indexOfChar
  obtain ⟨x1, hx1⟩ : ∃ y : Int, y = zi2bI p1 := ⟨_, rfl⟩
  have he := zn_e hx1 he
  refine zn_z (y := zo x1) ((zo_i2b rfl).trans (congrArg zo hx1.symm)) ?_
  refine zl1_z (m1 := zo) rfl he (fun l5_2 again3f again3 hagain3 he => ?_)
  obtain ⟨hn2, he⟩ := zg_e he
  obtain ⟨hn3, he⟩ := zg_e he
  by_cases c4 : p3 ≤ l5_2
  · have he := zif_t c4 he
    refine zif_p ((zo_le rfl rfl hn2 hn3).mpr c4) ?_
    obtain ⟨rfl⟩ := zi1 he
    exact zs1 (zo_ln 1)
  · have he := zif_f c4 he
    refine zif_n (fun q => c4 ((zo_le rfl rfl hn2 hn3).mp q)) ?_
    obtain ⟨hg5, he⟩ := zg_e he
    refine zg_z hg5 ?_
    obtain ⟨hg7, he⟩ := zg_e he
    have hg6 := zin4 hg7
    refine zg_z (zo_in rfl hg6) ?_
    obtain ⟨hn8, he⟩ := zg_e he
    obtain ⟨hn9, he⟩ := zg_e he
    by_cases c10 : zSBI p0 l5_2 = x1
    · have he := zif_t c10 he
      refine zif_p ((zo_eq (zo_SB rfl hg6) rfl hn8 hn9).mpr c10) ?_
      obtain ⟨rfl⟩ := zi1 he
      exact zs1 rfl
    · have he := zif_f c10 he
      refine zif_n (fun q => c10 ((zo_eq (zo_SB rfl hg6) rfl hn8 hn9).mp q)) ?_
      obtain ⟨x8, hx11⟩ : ∃ y : Int, y = l5_2 + (1 : Int) := ⟨_, rfl⟩
      have he := zn_e hx11 he
      refine zn_z (y := zo x8) ((zo_add rfl (zo_l 1)).trans (congrArg zo hx11.symm)) ?_
      exact zk1 hagain3 rfl he
theorem s_StringLatin1_indexOf {p0 : Nat} {p1f : Int32} {p1 : Int} {p2f : Int32} {p2 : Int} {p3f : Int32} {p3 : Int} {R0 : Int} (ep1 : p1f = zo p1) (ep2 : p2f = zo p2) (ep3 : p3f = zo p3) (he : g_StringLatin1_indexOf p0 p1 p2 p3 = some (R0)) : f_StringLatin1_indexOf p0 p1f p2f p3f = some (zo R0) := by
  subst ep1
  subst ep2
  subst ep3
  unfold g_StringLatin1_indexOf at he
  unfold f_StringLatin1_indexOf
  obtain ⟨r1, hb1, he⟩ := zb1_e he
  refine (zb1_s (s_StringLatin1_canEncode rfl hb1)).trans ?_
  obtain ⟨hn2, he⟩ := zg_e he
  by_cases c3 : r1 = (0 : Int)
  · have he := zif_t c3 he
    refine zif_p ((zo_eq rfl (zo_l 0) hn2 (by decide)).mpr c3) ?_
    obtain ⟨rfl⟩ := zi1 he
    exact zs1 (zo_ln 1)
  · have he := zif_f c3 he
    refine zif_n (fun q => c3 ((zo_eq rfl (zo_l 0) hn2 (by decide)).mp q)) ?_
    obtain ⟨hn4, he⟩ := zg_e he
    obtain ⟨x4, hx5⟩ : ∃ y : Int, y = max p2 (0 : Int) := ⟨_, rfl⟩
    have he := zn_e hx5 he
    refine zn_z (y := zo x4) ((zo_max rfl (zo_l 0) hn4 (by decide)).trans (congrArg zo hx5.symm)) ?_
    obtain ⟨hg6, he⟩ := zg_e he
    refine zg_z hg6 ?_
    obtain ⟨hn7, he⟩ := zg_e he
    obtain ⟨hn8, he⟩ := zg_e he
    obtain ⟨x6, hx9⟩ : ∃ y : Int, y = min p3 (((zSL p0) : Nat) : Int) := ⟨_, rfl⟩
    have he := zn_e hx9 he
    refine zn_z (y := zo x6) ((zo_min rfl (zo_nI (zSL p0)) hn7 hn8).trans (congrArg zo hx9.symm)) ?_
    obtain ⟨hn10, he⟩ := zg_e he
    obtain ⟨hn11, he⟩ := zg_e he
    by_cases c12 : x4 < x6
    · have he := zif_t c12 he
      refine zif_p ((zo_lt rfl rfl hn10 hn11).mpr c12) ?_
      obtain ⟨r8, hb13, he⟩ := zb1_e he
      refine (zb1_s (s_StringLatin1_indexOfChar rfl rfl rfl hb13)).trans ?_
      obtain ⟨rfl⟩ := zi1 he
      exact zs1 rfl
    · have he := zif_f c12 he
      refine zif_n (fun q => c12 ((zo_lt rfl rfl hn10 hn11).mp q)) ?_
      obtain ⟨rfl⟩ := zi1 he
      exact zs1 (zo_ln 1)
theorem s_String_indexOf_1 {p0 : Nat} {p1f : Int32} {p1 : Int} {p2f : Int32} {p2 : Int} {R0 : Int} (ep1 : p1f = zo p1) (ep2 : p2f = zo p2) (he : g_String_indexOf_1 p0 p1 p2 = some (R0)) : f_String_indexOf_1 p0 p1f p2f = some (zo R0) := by
  subst ep1
  subst ep2
  unfold g_String_indexOf_1 at he
  unfold f_String_indexOf_1
  obtain ⟨hg1, he⟩ := zg_e he
  refine zg_z hg1 ?_
  obtain ⟨r2, hb2, he⟩ := zb1_e he
  refine (zb1_s (s_String_isLatin1  hb2)).trans ?_
  obtain ⟨hn3, he⟩ := zg_e he
  by_cases c4 : r2 = (0 : Int)
  · have he := zif_t c4 he
    refine zif_p ((zo_eq rfl (zo_l 0) hn3 (by decide)).mpr c4) ?_
    cases he
  · have he := zif_f c4 he
    refine zif_n (fun q => c4 ((zo_eq rfl (zo_l 0) hn3 (by decide)).mp q)) ?_
    refine zg_z hg1 ?_
    refine zg_z hg1 ?_
    obtain ⟨r7, hb7, he⟩ := zb1_e he
    refine (zb1_s (s_String_length  hb7)).trans ?_
    obtain ⟨r9, hb8, he⟩ := zb1_e he
    refine (zb1_s (s_StringLatin1_indexOf rfl rfl rfl hb8)).trans ?_
    obtain ⟨rfl⟩ := zi1 he
    exact zs1 rfl
theorem s_String_indexOf_0 {p0 : Nat} {p1f : Int32} {p1 : Int} {R0 : Int} (ep1 : p1f = zo p1) (he : g_String_indexOf_0 p0 p1 = some (R0)) : f_String_indexOf_0 p0 p1f = some (zo R0) := by
  subst ep1
  unfold g_String_indexOf_0 at he
  unfold f_String_indexOf_0
  obtain ⟨hg1, he⟩ := zg_e he
  refine zg_z hg1 ?_
  obtain ⟨r2, hb2, he⟩ := zb1_e he
  refine (zb1_s (s_String_indexOf_1 rfl (zo_l 0) hb2)).trans ?_
  obtain ⟨rfl⟩ := zi1 he
  exact zs1 rfl
theorem s_Letters_fits {p0f : Int32} {p0 : Int} {p1f : Int32} {p1 : Int} {R0 : Int} (ep0 : p0f = zo p0) (ep1 : p1f = zo p1) (he : g_Letters_fits p0 p1 = some (R0)) : f_Letters_fits p0f p1f = some (zo R0) := by
  subst ep0
  subst ep1
  unfold g_Letters_fits at he
  unfold f_Letters_fits
  obtain ⟨hn1, he⟩ := zg_e he
  by_cases c2 : p0 = (75 : Int)
  · have he := zif_t c2 he
    refine zif_p ((zo_eq rfl (zo_l 75) hn1 (by decide)).mpr c2) ?_
    obtain ⟨hg3, he⟩ := zg_e he
    refine zg_z hg3 ?_
    obtain ⟨hn4, he⟩ := zg_e he
    obtain ⟨r7, hb5, he⟩ := zb1_e he
    refine (zb1_s (s_String_indexOf_0 (zo_i2c rfl hn4) hb5)).trans ?_
    obtain ⟨hn6, he⟩ := zg_e he
    by_cases c7 : r7 < (0 : Int)
    · have he := zif_t c7 he
      refine zif_p ((zo_lt rfl (zo_l 0) hn6 (by decide)).mpr c7) ?_
      obtain ⟨rfl⟩ := zi1 he
      exact zs1 (zo_l 0)
    · have he := zif_f c7 he
      refine zif_n (fun q => c7 ((zo_lt rfl (zo_l 0) hn6 (by decide)).mp q)) ?_
      obtain ⟨rfl⟩ := zi1 he
      exact zs1 (zo_l 1)
  · have he := zif_f c2 he
    refine zif_n (fun q => c2 ((zo_eq rfl (zo_l 75) hn1 (by decide)).mp q)) ?_
    by_cases c8 : p0 = (68 : Int)
    · have he := zif_t c8 he
      refine zif_p ((zo_eq rfl (zo_l 68) hn1 (by decide)).mpr c8) ?_
      obtain ⟨hn9, he⟩ := zg_e he
      by_cases c10 : p1 < (48 : Int)
      · have he := zif_t c10 he
        refine zif_p ((zo_lt rfl (zo_l 48) hn9 (by decide)).mpr c10) ?_
        obtain ⟨rfl⟩ := zi1 he
        exact zs1 (zo_l 0)
      · have he := zif_f c10 he
        refine zif_n (fun q => c10 ((zo_lt rfl (zo_l 48) hn9 (by decide)).mp q)) ?_
        by_cases c11 : (57 : Int) < p1
        · have he := zif_t c11 he
          refine zif_p ((zo_lt (zo_l 57) rfl (by decide) hn9).mpr c11) ?_
          obtain ⟨rfl⟩ := zi1 he
          exact zs1 (zo_l 0)
        · have he := zif_f c11 he
          refine zif_n (fun q => c11 ((zo_lt (zo_l 57) rfl (by decide) hn9).mp q)) ?_
          obtain ⟨rfl⟩ := zi1 he
          exact zs1 (zo_l 1)
    · have he := zif_f c8 he
      refine zif_n (fun q => c8 ((zo_eq rfl (zo_l 68) hn1 (by decide)).mp q)) ?_
      obtain ⟨hn12, he⟩ := zg_e he
      by_cases c13 : p1 = p0
      · have he := zif_t c13 he
        refine zif_p ((zo_eq rfl rfl hn12 hn1).mpr c13) ?_
        obtain ⟨rfl⟩ := zi1 he
        exact zs1 (zo_l 1)
      · have he := zif_f c13 he
        refine zif_n (fun q => c13 ((zo_eq rfl rfl hn12 hn1).mp q)) ?_
        obtain ⟨rfl⟩ := zi1 he
        exact zs1 (zo_l 0)
theorem s_Letters_firstWrongLetter {v_countf : Int32} {v_count : Int} {g_all_allf : Nat → Int32} {g_all_all : Nat → Int} {R0 : Int} (ev_count : v_countf = zo v_count) (eg_all_all : g_all_allf = zoA g_all_all) (he : g_Letters_firstWrongLetter v_count g_all_all = some (R0)) : f_Letters_firstWrongLetter v_countf g_all_allf = some (zo R0) := by
  subst ev_count
  subst eg_all_all
  unfold g_Letters_firstWrongLetter at he
  unfold f_Letters_firstWrongLetter
  refine zj1_z (m1 := id) he (fun _ he => ?_) (fun k2f k2 hk2 he => ?_)
  · obtain ⟨hn1, he⟩ := zg_e he
    by_cases c2 : v_count = (0 : Int)
    · have he := zif_t c2 he
      refine zif_p ((zo_eq rfl (zo_l 0) hn1 (by decide)).mpr c2) ?_
      obtain ⟨rfl⟩ := zi1 he
      exact zs1 (zo_l 0)
    · have he := zif_f c2 he
      refine zif_n (fun q => c2 ((zo_eq rfl (zo_l 0) hn1 (by decide)).mp q)) ?_
      obtain ⟨rfl⟩ := zi1 he
      exact zs1 (zo_ln 1)
  refine zl1_z (m1 := zo) (zo_l 0) he (fun l1_3 again4f again4 hagain4 he => ?_)
  obtain ⟨hn3, he⟩ := zg_e he
  obtain ⟨hn4, he⟩ := zg_e he
  by_cases c5 : v_count ≤ l1_3
  · have he := zif_t c5 he
    refine zif_p ((zo_le rfl rfl hn3 hn4).mpr c5) ?_
    exact zk1 hk2 rfl he
  · have he := zif_f c5 he
    refine zif_n (fun q => c5 ((zo_le rfl rfl hn3 hn4).mp q)) ?_
    obtain ⟨r6, hb6, he⟩ := zb1_e he
    refine (zb1_s (s_Numbers_at rfl rfl hb6)).trans ?_
    obtain ⟨r8, hb7, he⟩ := zb1_e he
    refine (zb1_s (s_Letters_formOf rfl hb7)).trans ?_
    obtain ⟨hg8, he⟩ := zg_e he
    refine zg_z hg8 ?_
    obtain ⟨r11, hb9, he⟩ := zb1_e he
    refine (zb1_s (s_String_isEmpty  hb9)).trans ?_
    obtain ⟨hn10, he⟩ := zg_e he
    by_cases c11 : r11 = (0 : Int)
    · have he := zif_t c11 he
      refine zif_p ((zo_eq rfl (zo_l 0) hn10 (by decide)).mpr c11) ?_
      obtain ⟨x14, hx12⟩ : ∃ y : Int, y = l1_3 + (1 : Int) := ⟨_, rfl⟩
      have he := zn_e hx12 he
      refine zn_z (y := zo x14) ((zo_add rfl (zo_l 1)).trans (congrArg zo hx12.symm)) ?_
      refine zj1_z (m1 := zo) he (fun l1_15 he => ?_) (fun k16f k16 hk16 he => ?_)
      · exact zk1 hagain4 rfl he
      refine zl2_z (m1 := zo) (m2 := zo) rfl (zo_l 0) he (fun l1_17 l3_18 again19f again19 hagain19 he => ?_)
      refine zg_z hg8 ?_
      obtain ⟨r21, hb14, he⟩ := zb1_e he
      refine (zb1_s (s_String_length  hb14)).trans ?_
      obtain ⟨hn15, he⟩ := zg_e he
      obtain ⟨hn16, he⟩ := zg_e he
      by_cases c17 : r21 ≤ l3_18
      · have he := zif_t c17 he
        refine zif_p ((zo_le rfl rfl hn15 hn16).mpr c17) ?_
        exact zk1 hk16 rfl he
      · have he := zif_f c17 he
        refine zif_n (fun q => c17 ((zo_le rfl rfl hn15 hn16).mp q)) ?_
        obtain ⟨hn18, he⟩ := zg_e he
        by_cases c19 : v_count ≤ l1_17
        · have he := zif_t c19 he
          refine zif_p ((zo_le rfl rfl hn3 hn18).mpr c19) ?_
          obtain ⟨rfl⟩ := zi1 he
          exact zs1 rfl
        · have he := zif_f c19 he
          refine zif_n (fun q => c19 ((zo_le rfl rfl hn3 hn18).mp q)) ?_
          refine zg_z hg8 ?_
          obtain ⟨r26, hb21, he⟩ := zb1_e he
          refine (zb1_s (s_String_charAt rfl hb21)).trans ?_
          obtain ⟨r28, hb22, he⟩ := zb1_e he
          refine (zb1_s (s_Numbers_at rfl rfl hb22)).trans ?_
          obtain ⟨r30, hb23, he⟩ := zb1_e he
          refine (zb1_s (s_Letters_fits rfl rfl hb23)).trans ?_
          obtain ⟨hn24, he⟩ := zg_e he
          by_cases c25 : r30 = (0 : Int)
          · have he := zif_t c25 he
            refine zif_p ((zo_eq rfl (zo_l 0) hn24 (by decide)).mpr c25) ?_
            obtain ⟨rfl⟩ := zi1 he
            exact zs1 rfl
          · have he := zif_f c25 he
            refine zif_n (fun q => c25 ((zo_eq rfl (zo_l 0) hn24 (by decide)).mp q)) ?_
            obtain ⟨x33, hx26⟩ : ∃ y : Int, y = l1_17 + (1 : Int) := ⟨_, rfl⟩
            have he := zn_e hx26 he
            refine zn_z (y := zo x33) ((zo_add rfl (zo_l 1)).trans (congrArg zo hx26.symm)) ?_
            obtain ⟨x34, hx27⟩ : ∃ y : Int, y = l3_18 + (1 : Int) := ⟨_, rfl⟩
            have he := zn_e hx27 he
            refine zn_z (y := zo x34) ((zo_add rfl (zo_l 1)).trans (congrArg zo hx27.symm)) ?_
            exact zk2 hagain19 rfl rfl he
    · have he := zif_f c11 he
      refine zif_n (fun q => c11 ((zo_eq rfl (zo_l 0) hn10 (by decide)).mp q)) ?_
      obtain ⟨rfl⟩ := zi1 he
      exact zs1 rfl
theorem s_Letters_digitAt {g_all_allf : Nat → Int32} {g_all_all : Nat → Int} {p1f : Int32} {p1 : Int} {R0 : Int} (eg_all_all : g_all_allf = zoA g_all_all) (ep1 : p1f = zo p1) (he : g_Letters_digitAt g_all_all p1 = some (R0)) : f_Letters_digitAt g_all_allf p1f = some (zo R0) := by
  subst eg_all_all
  subst ep1
  unfold g_Letters_digitAt at he
  unfold f_Letters_digitAt
  obtain ⟨r1, hb1, he⟩ := zb1_e he
  refine (zb1_s (s_Numbers_at rfl rfl hb1)).trans ?_
  obtain ⟨rfl⟩ := zi1 he
  exact zs1 (zo_sub rfl (zo_l 48))
theorem s_Letters_squareAt {g_all_allf : Nat → Int32} {g_all_all : Nat → Int} {p1f : Int32} {p1 : Int} {R0 : Int} (eg_all_all : g_all_allf = zoA g_all_all) (ep1 : p1f = zo p1) (he : g_Letters_squareAt g_all_all p1 = some (R0)) : f_Letters_squareAt g_all_allf p1f = some (zo R0) := by
  subst eg_all_all
  subst ep1
  unfold g_Letters_squareAt at he
  unfold f_Letters_squareAt
  obtain ⟨r1, hb1, he⟩ := zb1_e he
  refine (zb1_s (s_Letters_digitAt rfl rfl hb1)).trans ?_
  obtain ⟨r3, hb2, he⟩ := zb1_e he
  refine (zb1_s (s_Letters_digitAt rfl (zo_add rfl (zo_l 1)) hb2)).trans ?_
  obtain ⟨rfl⟩ := zi1 he
  exact zs1 (zo_add (zo_mul rfl (zo_l 10)) rfl)
theorem s_Letters_kindAt {g_all_allf : Nat → Int32} {g_all_all : Nat → Int} {p1f : Int32} {p1 : Int} {R0 : Int} (eg_all_all : g_all_allf = zoA g_all_all) (ep1 : p1f = zo p1) (he : g_Letters_kindAt g_all_all p1 = some (R0)) : f_Letters_kindAt g_all_allf p1f = some (zo R0) := by
  subst eg_all_all
  subst ep1
  unfold g_Letters_kindAt at he
  unfold f_Letters_kindAt
  obtain ⟨r1, hb1, he⟩ := zb1_e he
  refine (zb1_s (s_Numbers_at rfl rfl hb1)).trans ?_
  obtain ⟨hg2, he⟩ := zg_e he
  refine zg_z hg2 ?_
  obtain ⟨hn3, he⟩ := zg_e he
  obtain ⟨r4, hb4, he⟩ := zb1_e he
  refine (zb1_s (s_String_indexOf_0 (zo_i2c rfl hn3) hb4)).trans ?_
  obtain ⟨rfl⟩ := zi1 he
  exact zs1 rfl
theorem s_X_isSquare {p0f : Int32} {p0 : Int} {R0 : Int} (ep0 : p0f = zo p0) (he : g_X_isSquare p0 = some (R0)) : f_X_isSquare p0f = some (zo R0) := by
  subst ep0
  unfold g_X_isSquare at he
  unfold f_X_isSquare
  obtain ⟨hn1, he⟩ := zg_e he
  by_cases c2 : p0 < (0 : Int)
  · have he := zif_t c2 he
    refine zif_p ((zo_lt rfl (zo_l 0) hn1 (by decide)).mpr c2) ?_
    obtain ⟨rfl⟩ := zi1 he
    exact zs1 (zo_l 0)
  · have he := zif_f c2 he
    refine zif_n (fun q => c2 ((zo_lt rfl (zo_l 0) hn1 (by decide)).mp q)) ?_
    by_cases c3 : (36 : Int) ≤ p0
    · have he := zif_t c3 he
      refine zif_p ((zo_le (zo_l 36) rfl (by decide) hn1).mpr c3) ?_
      obtain ⟨rfl⟩ := zi1 he
      exact zs1 (zo_l 0)
    · have he := zif_f c3 he
      refine zif_n (fun q => c3 ((zo_le (zo_l 36) rfl (by decide) hn1).mp q)) ?_
      obtain ⟨rfl⟩ := zi1 he
      exact zs1 (zo_l 1)
theorem s_Town_trait {tn_p0 : Nat} {tf_p0f : Nat → Int32} {tf_p0 : Nat → Int} {p1f : Int32} {p1 : Int} {R0 : Int} (etf_p0 : tf_p0f = zoA tf_p0) (ep1 : p1f = zo p1) (he : g_Town_trait tn_p0 tf_p0 p1 = some (R0)) : f_Town_trait tn_p0 tf_p0f p1f = some (zo R0) := by
  subst etf_p0
  subst ep1
  unfold g_Town_trait at he
  unfold f_Town_trait
  obtain ⟨hn1, he⟩ := zg_e he
  by_cases c2 : p1 < (0 : Int)
  · have he := zif_t c2 he
    refine zif_p ((zo_lt rfl (zo_l 0) hn1 (by decide)).mpr c2) ?_
    obtain ⟨rfl⟩ := zi1 he
    exact zs1 (zo_l 0)
  · have he := zif_f c2 he
    refine zif_n (fun q => c2 ((zo_lt rfl (zo_l 0) hn1 (by decide)).mp q)) ?_
    obtain ⟨hn3, he⟩ := zg_e he
    by_cases c4 : ((tn_p0 : Nat) : Int) ≤ p1
    · have he := zif_t c4 he
      refine zif_p ((zo_le (zo_nI tn_p0) rfl hn3 hn1).mpr c4) ?_
      obtain ⟨rfl⟩ := zi1 he
      exact zs1 (zo_l 0)
    · have he := zif_f c4 he
      refine zif_n (fun q => c4 ((zo_le (zo_nI tn_p0) rfl hn3 hn1).mp q)) ?_
      obtain ⟨hg6, he⟩ := zg_e he
      have hg5 := zin4 hg6
      refine zg_z (zo_in rfl hg5) ?_
      obtain ⟨rfl⟩ := zi1 he
      exact zs1 (zo_rd rfl rfl hg5)
theorem s_Town_rebuild {v_homef : Int32} {v_home : Int} {g_kinds_allf : Nat → Int32} {g_kinds_all : Nat → Int} {p1f : Int32} {p1 : Int} {p2f : Int32} {p2 : Int} {p3f : Int32} {p3 : Int} {R0 : Int} {R1 : Nat → Int} (ev_home : v_homef = zo v_home) (eg_kinds_all : g_kinds_allf = zoA g_kinds_all) (ep1 : p1f = zo p1) (ep2 : p2f = zo p2) (ep3 : p3f = zo p3) (he : g_Town_rebuild v_home g_kinds_all p1 p2 p3 = some (R0, R1)) : f_Town_rebuild v_homef g_kinds_allf p1f p2f p3f = some (zo R0, zoA R1) := by
  subst ev_home
  subst eg_kinds_all
  subst ep1
  subst ep2
  subst ep3
  unfold g_Town_rebuild at he
  unfold f_Town_rebuild
  obtain ⟨hn1, he⟩ := zg_e he
  obtain ⟨hn2, he⟩ := zg_e he
  by_cases c3 : p2 < p1
  · have he := zif_t c3 he
    refine zif_p ((zo_lt rfl rfl hn1 hn2).mpr c3) ?_
    obtain ⟨rfl, rfl⟩ := zi2 he
    exact zs2 (zo_l 0) rfl
  · have he := zif_f c3 he
    refine zif_n (fun q => c3 ((zo_lt rfl rfl hn1 hn2).mp q)) ?_
    obtain ⟨r2, hb4, he⟩ := zb1_e he
    refine (zb1_s (s_X_isSquare rfl hb4)).trans ?_
    obtain ⟨hn5, he⟩ := zg_e he
    by_cases c6 : r2 = (0 : Int)
    · have he := zif_t c6 he
      refine zif_p ((zo_eq rfl (zo_l 0) hn5 (by decide)).mpr c6) ?_
      obtain ⟨rfl, rfl⟩ := zi2 he
      exact zs2 (zo_l 0) rfl
    · have he := zif_f c6 he
      refine zif_n (fun q => c6 ((zo_eq rfl (zo_l 0) hn5 (by decide)).mp q)) ?_
      obtain ⟨r5, hb7, he⟩ := zb1_e he
      refine (zb1_s (s_X_isSquare rfl hb7)).trans ?_
      obtain ⟨hn8, he⟩ := zg_e he
      by_cases c9 : r5 = (0 : Int)
      · have he := zif_t c9 he
        refine zif_p ((zo_eq rfl (zo_l 0) hn8 (by decide)).mpr c9) ?_
        obtain ⟨rfl, rfl⟩ := zi2 he
        exact zs2 (zo_l 0) rfl
      · have he := zif_f c9 he
        refine zif_n (fun q => c9 ((zo_eq rfl (zo_l 0) hn8 (by decide)).mp q)) ?_
        refine zj1_z (m1 := id) he (fun _ he => ?_) (fun k15f k15 hk15 he => ?_)
        · refine zl2_z (m1 := zo) (m2 := zoA) rfl rfl he (fun l4_8 g_kinds_all_9 again10f again10 hagain10 he => ?_)
          obtain ⟨hn10, he⟩ := zg_e he
          by_cases c11 : p2 < l4_8
          · have he := zif_t c11 he
            refine zif_p ((zo_lt rfl rfl hn1 hn10).mpr c11) ?_
            obtain ⟨rfl, rfl⟩ := zi2 he
            exact zs2 (zo_l 1) rfl
          · have he := zif_f c11 he
            refine zif_n (fun q => c11 ((zo_lt rfl rfl hn1 hn10).mp q)) ?_
            obtain ⟨g_kinds_all_12, hb12, he⟩ := zb1_e he
            refine (zb1_s (s_Numbers_put rfl rfl rfl hb12)).trans ?_
            obtain ⟨x14, hx13⟩ : ∃ y : Int, y = l4_8 + (1 : Int) := ⟨_, rfl⟩
            have he := zn_e hx13 he
            refine zn_z (y := zo x14) ((zo_add rfl (zo_l 1)).trans (congrArg zo hx13.symm)) ?_
            exact zk2 hagain10 rfl rfl he
        obtain ⟨hn14, he⟩ := zg_e he
        by_cases c15 : v_home < p1
        · have he := zif_t c15 he
          refine zif_p ((zo_lt rfl rfl hn14 hn2).mpr c15) ?_
          exact zk1 hk15 rfl he
        · have he := zif_f c15 he
          refine zif_n (fun q => c15 ((zo_lt rfl rfl hn14 hn2).mp q)) ?_
          by_cases c16 : p2 < v_home
          · have he := zif_t c16 he
            refine zif_p ((zo_lt rfl rfl hn1 hn14).mpr c16) ?_
            exact zk1 hk15 rfl he
          · have he := zif_f c16 he
            refine zif_n (fun q => c16 ((zo_lt rfl rfl hn1 hn14).mp q)) ?_
            obtain ⟨r18, hb17, he⟩ := zb1_e he
            refine (zb1_s (s_Town_trait zT_KIND_CAN_BE rfl hb17)).trans ?_
            obtain ⟨hn18, he⟩ := zg_e he
            by_cases c19 : r18 = (0 : Int)
            · have he := zif_t c19 he
              refine zif_p ((zo_eq rfl (zo_l 0) hn18 (by decide)).mpr c19) ?_
              obtain ⟨rfl, rfl⟩ := zi2 he
              exact zs2 (zo_l 0) rfl
            · have he := zif_f c19 he
              refine zif_n (fun q => c19 ((zo_eq rfl (zo_l 0) hn18 (by decide)).mp q)) ?_
              exact zk1 hk15 rfl he
theorem s_Town_canBe {g_kinds_allf : Nat → Int32} {g_kinds_all : Nat → Int} {p1f : Int32} {p1 : Int} {R0 : Int} (eg_kinds_all : g_kinds_allf = zoA g_kinds_all) (ep1 : p1f = zo p1) (he : g_Town_canBe g_kinds_all p1 = some (R0)) : f_Town_canBe g_kinds_allf p1f = some (zo R0) := by
  subst eg_kinds_all
  subst ep1
  unfold g_Town_canBe at he
  unfold f_Town_canBe
  obtain ⟨r1, hb1, he⟩ := zb1_e he
  refine (zb1_s (s_X_isSquare rfl hb1)).trans ?_
  obtain ⟨hn2, he⟩ := zg_e he
  by_cases c3 : r1 = (0 : Int)
  · have he := zif_t c3 he
    refine zif_p ((zo_eq rfl (zo_l 0) hn2 (by decide)).mpr c3) ?_
    obtain ⟨rfl⟩ := zi1 he
    exact zs1 (zo_l 0)
  · have he := zif_f c3 he
    refine zif_n (fun q => c3 ((zo_eq rfl (zo_l 0) hn2 (by decide)).mp q)) ?_
    obtain ⟨r4, hb4, he⟩ := zb1_e he
    refine (zb1_s (s_Numbers_at rfl rfl hb4)).trans ?_
    obtain ⟨r6, hb5, he⟩ := zb1_e he
    refine (zb1_s (s_Town_trait zT_KIND_CAN_BE rfl hb5)).trans ?_
    obtain ⟨hn6, he⟩ := zg_e he
    by_cases c7 : r6 = (0 : Int)
    · have he := zif_t c7 he
      refine zif_p ((zo_eq rfl (zo_l 0) hn6 (by decide)).mpr c7) ?_
      obtain ⟨rfl⟩ := zi1 he
      exact zs1 (zo_l 0)
    · have he := zif_f c7 he
      refine zif_n (fun q => c7 ((zo_eq rfl (zo_l 0) hn6 (by decide)).mp q)) ?_
      obtain ⟨rfl⟩ := zi1 he
      exact zs1 (zo_l 1)
theorem s_Town_moveHome {v_homef : Int32} {v_home : Int} {g_kinds_allf : Nat → Int32} {g_kinds_all : Nat → Int} {p1f : Int32} {p1 : Int} {R0 : Int} {R1 : Int} (ev_home : v_homef = zo v_home) (eg_kinds_all : g_kinds_allf = zoA g_kinds_all) (ep1 : p1f = zo p1) (he : g_Town_moveHome v_home g_kinds_all p1 = some (R0, R1)) : f_Town_moveHome v_homef g_kinds_allf p1f = some (zo R0, zo R1) := by
  subst ev_home
  subst eg_kinds_all
  subst ep1
  unfold g_Town_moveHome at he
  unfold f_Town_moveHome
  obtain ⟨r1, hb1, he⟩ := zb1_e he
  refine (zb1_s (s_Town_canBe rfl rfl hb1)).trans ?_
  obtain ⟨hn2, he⟩ := zg_e he
  by_cases c3 : r1 = (0 : Int)
  · have he := zif_t c3 he
    refine zif_p ((zo_eq rfl (zo_l 0) hn2 (by decide)).mpr c3) ?_
    obtain ⟨rfl, rfl⟩ := zi2 he
    exact zs2 (zo_l 0) rfl
  · have he := zif_f c3 he
    refine zif_n (fun q => c3 ((zo_eq rfl (zo_l 0) hn2 (by decide)).mp q)) ?_
    obtain ⟨rfl, rfl⟩ := zi2 he
    exact zs2 (zo_l 1) rfl
theorem s_Town_changeFine {v_finef : Int32} {v_fine : Int} {p1f : Int32} {p1 : Int} {R0 : Int} {R1 : Int} (ev_fine : v_finef = zo v_fine) (ep1 : p1f = zo p1) (he : g_Town_changeFine v_fine p1 = some (R0, R1)) : f_Town_changeFine v_finef p1f = some (zo R0, zo R1) := by
  subst ev_fine
  subst ep1
  unfold g_Town_changeFine at he
  unfold f_Town_changeFine
  obtain ⟨hn1, he⟩ := zg_e he
  by_cases c2 : p1 < (0 : Int)
  · have he := zif_t c2 he
    refine zif_p ((zo_lt rfl (zo_l 0) hn1 (by decide)).mpr c2) ?_
    obtain ⟨rfl, rfl⟩ := zi2 he
    exact zs2 (zo_l 0) rfl
  · have he := zif_f c2 he
    refine zif_n (fun q => c2 ((zo_lt rfl (zo_l 0) hn1 (by decide)).mp q)) ?_
    by_cases c3 : p1 ≤ (9 : Int)
    · have he := zif_t c3 he
      refine zif_p ((zo_le rfl (zo_l 9) hn1 (by decide)).mpr c3) ?_
      obtain ⟨rfl, rfl⟩ := zi2 he
      exact zs2 (zo_l 1) rfl
    · have he := zif_f c3 he
      refine zif_n (fun q => c3 ((zo_le rfl (zo_l 9) hn1 (by decide)).mp q)) ?_
      obtain ⟨rfl, rfl⟩ := zi2 he
      exact zs2 (zo_l 0) rfl
theorem s_Town_changeBreath {v_breathf : Int32} {v_breath : Int} {p1f : Int32} {p1 : Int} {R0 : Int} {R1 : Int} (ev_breath : v_breathf = zo v_breath) (ep1 : p1f = zo p1) (he : g_Town_changeBreath v_breath p1 = some (R0, R1)) : f_Town_changeBreath v_breathf p1f = some (zo R0, zo R1) := by
  subst ev_breath
  subst ep1
  unfold g_Town_changeBreath at he
  unfold f_Town_changeBreath
  obtain ⟨hn1, he⟩ := zg_e he
  by_cases c2 : p1 < (1 : Int)
  · have he := zif_t c2 he
    refine zif_p ((zo_lt rfl (zo_l 1) hn1 (by decide)).mpr c2) ?_
    obtain ⟨rfl, rfl⟩ := zi2 he
    exact zs2 (zo_l 0) rfl
  · have he := zif_f c2 he
    refine zif_n (fun q => c2 ((zo_lt rfl (zo_l 1) hn1 (by decide)).mp q)) ?_
    by_cases c3 : p1 ≤ (9 : Int)
    · have he := zif_t c3 he
      refine zif_p ((zo_le rfl (zo_l 9) hn1 (by decide)).mpr c3) ?_
      obtain ⟨rfl, rfl⟩ := zi2 he
      exact zs2 (zo_l 1) rfl
    · have he := zif_f c3 he
      refine zif_n (fun q => c3 ((zo_le rfl (zo_l 9) hn1 (by decide)).mp q)) ?_
      obtain ⟨rfl, rfl⟩ := zi2 he
      exact zs2 (zo_l 0) rfl
theorem s_Letters_obey {v_p1_breathf : Int32} {v_p1_breath : Int} {v_p1_finef : Int32} {v_p1_fine : Int} {v_p1_homef : Int32} {v_p1_home : Int} {g_p1_kinds_allf : Nat → Int32} {g_p1_kinds_all : Nat → Int} {g_all_allf : Nat → Int32} {g_all_all : Nat → Int} {p2f : Int32} {p2 : Int} {R0 : Int} {R1 : Int} {R2 : Int} {R3 : Int} {R4 : Nat → Int} (ev_p1_breath : v_p1_breathf = zo v_p1_breath) (ev_p1_fine : v_p1_finef = zo v_p1_fine) (ev_p1_home : v_p1_homef = zo v_p1_home) (eg_p1_kinds_all : g_p1_kinds_allf = zoA g_p1_kinds_all) (eg_all_all : g_all_allf = zoA g_all_all) (ep2 : p2f = zo p2) (he : g_Letters_obey v_p1_breath v_p1_fine v_p1_home g_p1_kinds_all g_all_all p2 = some (R0, R1, R2, R3, R4)) : f_Letters_obey v_p1_breathf v_p1_finef v_p1_homef g_p1_kinds_allf g_all_allf p2f = some (zo R0, zo R1, zo R2, zo R3, zoA R4) := by
  subst ev_p1_breath
  subst ev_p1_fine
  subst ev_p1_home
  subst eg_p1_kinds_all
  subst eg_all_all
  subst ep2
  unfold g_Letters_obey at he
  unfold f_Letters_obey
  obtain ⟨r1, hb1, he⟩ := zb1_e he
  refine (zb1_s (s_Numbers_at rfl rfl hb1)).trans ?_
  obtain ⟨hn2, he⟩ := zg_e he
  by_cases c3 : r1 = (98 : Int)
  · have he := zif_t c3 he
    refine zif_p ((zo_eq rfl (zo_l 98) hn2 (by decide)).mpr c3) ?_
    obtain ⟨r4, hb4, he⟩ := zb1_e he
    refine (zb1_s (s_Letters_digitAt rfl (zo_add rfl (zo_l 1)) hb4)).trans ?_
    obtain ⟨r6, v_p1_breath_7, hb5, he⟩ := zb2_e he
    refine (zb2_s (s_Town_changeBreath rfl rfl hb5)).trans ?_
    obtain ⟨hg6, he⟩ := zg_e he
    refine zg_z (zo_bool rfl hg6) ?_
    obtain ⟨rfl, rfl, rfl, rfl, rfl⟩ := zi5 he
    exact zs5 rfl rfl rfl rfl rfl
  · have he := zif_f c3 he
    refine zif_n (fun q => c3 ((zo_eq rfl (zo_l 98) hn2 (by decide)).mp q)) ?_
    by_cases c7 : r1 = (102 : Int)
    · have he := zif_t c7 he
      refine zif_p ((zo_eq rfl (zo_l 102) hn2 (by decide)).mpr c7) ?_
      obtain ⟨r11, hb8, he⟩ := zb1_e he
      refine (zb1_s (s_Letters_digitAt rfl (zo_add rfl (zo_l 1)) hb8)).trans ?_
      obtain ⟨r13, v_p1_fine_14, hb9, he⟩ := zb2_e he
      refine (zb2_s (s_Town_changeFine rfl rfl hb9)).trans ?_
      obtain ⟨hg10, he⟩ := zg_e he
      refine zg_z (zo_bool rfl hg10) ?_
      obtain ⟨rfl, rfl, rfl, rfl, rfl⟩ := zi5 he
      exact zs5 rfl rfl rfl rfl rfl
    · have he := zif_f c7 he
      refine zif_n (fun q => c7 ((zo_eq rfl (zo_l 102) hn2 (by decide)).mp q)) ?_
      by_cases c11 : r1 = (104 : Int)
      · have he := zif_t c11 he
        refine zif_p ((zo_eq rfl (zo_l 104) hn2 (by decide)).mpr c11) ?_
        obtain ⟨r18, hb12, he⟩ := zb1_e he
        refine (zb1_s (s_Letters_squareAt rfl (zo_add rfl (zo_l 1)) hb12)).trans ?_
        obtain ⟨r20, v_p1_home_21, hb13, he⟩ := zb2_e he
        refine (zb2_s (s_Town_moveHome rfl rfl rfl hb13)).trans ?_
        obtain ⟨hg14, he⟩ := zg_e he
        refine zg_z (zo_bool rfl hg14) ?_
        obtain ⟨rfl, rfl, rfl, rfl, rfl⟩ := zi5 he
        exact zs5 rfl rfl rfl rfl rfl
      · have he := zif_f c11 he
        refine zif_n (fun q => c11 ((zo_eq rfl (zo_l 104) hn2 (by decide)).mp q)) ?_
        by_cases c15 : r1 = (107 : Int)
        · have he := zif_t c15 he
          refine zif_p ((zo_eq rfl (zo_l 107) hn2 (by decide)).mpr c15) ?_
          obtain ⟨r25, hb16, he⟩ := zb1_e he
          refine (zb1_s (s_Letters_squareAt rfl (zo_add rfl (zo_l 2)) hb16)).trans ?_
          obtain ⟨r27, hb17, he⟩ := zb1_e he
          refine (zb1_s (s_Letters_squareAt rfl (zo_add rfl (zo_l 2)) hb17)).trans ?_
          obtain ⟨r29, hb18, he⟩ := zb1_e he
          refine (zb1_s (s_Letters_kindAt rfl (zo_add rfl (zo_l 1)) hb18)).trans ?_
          obtain ⟨r31, g_p1_kinds_all_32, hb19, he⟩ := zb2_e he
          refine (zb2_s (s_Town_rebuild rfl rfl rfl rfl rfl hb19)).trans ?_
          obtain ⟨hg20, he⟩ := zg_e he
          refine zg_z (zo_bool rfl hg20) ?_
          obtain ⟨rfl, rfl, rfl, rfl, rfl⟩ := zi5 he
          exact zs5 rfl rfl rfl rfl rfl
        · have he := zif_f c15 he
          refine zif_n (fun q => c15 ((zo_eq rfl (zo_l 107) hn2 (by decide)).mp q)) ?_
          by_cases c21 : r1 = (118 : Int)
          · have he := zif_t c21 he
            refine zif_p ((zo_eq rfl (zo_l 118) hn2 (by decide)).mpr c21) ?_
            obtain ⟨r36, hb22, he⟩ := zb1_e he
            refine (zb1_s (s_Letters_squareAt rfl (zo_add rfl (zo_l 2)) hb22)).trans ?_
            obtain ⟨r38, hb23, he⟩ := zb1_e he
            refine (zb1_s (s_Letters_squareAt rfl (zo_add rfl (zo_l 4)) hb23)).trans ?_
            obtain ⟨r40, hb24, he⟩ := zb1_e he
            refine (zb1_s (s_Letters_kindAt rfl (zo_add rfl (zo_l 1)) hb24)).trans ?_
            obtain ⟨r42, g_p1_kinds_all_43, hb25, he⟩ := zb2_e he
            refine (zb2_s (s_Town_rebuild rfl rfl rfl rfl rfl hb25)).trans ?_
            obtain ⟨hg26, he⟩ := zg_e he
            refine zg_z (zo_bool rfl hg26) ?_
            obtain ⟨rfl, rfl, rfl, rfl, rfl⟩ := zi5 he
            exact zs5 rfl rfl rfl rfl rfl
          · have he := zif_f c21 he
            refine zif_n (fun q => c21 ((zo_eq rfl (zo_l 118) hn2 (by decide)).mp q)) ?_
            obtain ⟨rfl, rfl, rfl, rfl, rfl⟩ := zi5 he
            exact zs5 (zo_l 0) rfl rfl rfl rfl
theorem s_Letters_build {v_p1_breathf : Int32} {v_p1_breath : Int} {v_p1_finef : Int32} {v_p1_fine : Int} {v_p1_homef : Int32} {v_p1_home : Int} {g_p1_kinds_allf : Nat → Int32} {g_p1_kinds_all : Nat → Int} {v_countf : Int32} {v_count : Int} {g_all_allf : Nat → Int32} {g_all_all : Nat → Int} {R0 : Int} {R1 : Int} {R2 : Int} {R3 : Int} {R4 : Nat → Int} (ev_p1_breath : v_p1_breathf = zo v_p1_breath) (ev_p1_fine : v_p1_finef = zo v_p1_fine) (ev_p1_home : v_p1_homef = zo v_p1_home) (eg_p1_kinds_all : g_p1_kinds_allf = zoA g_p1_kinds_all) (ev_count : v_countf = zo v_count) (eg_all_all : g_all_allf = zoA g_all_all) (he : g_Letters_build v_p1_breath v_p1_fine v_p1_home g_p1_kinds_all v_count g_all_all = some (R0, R1, R2, R3, R4)) : f_Letters_build v_p1_breathf v_p1_finef v_p1_homef g_p1_kinds_allf v_countf g_all_allf = some (zo R0, zo R1, zo R2, zo R3, zoA R4) := by
  subst ev_p1_breath
  subst ev_p1_fine
  subst ev_p1_home
  subst eg_p1_kinds_all
  subst ev_count
  subst eg_all_all
  unfold g_Letters_build at he
  unfold f_Letters_build
  obtain ⟨r1, hb1, he⟩ := zb1_e he
  refine (zb1_s (s_Letters_firstWrongLetter rfl rfl hb1)).trans ?_
  obtain ⟨hn2, he⟩ := zg_e he
  by_cases c3 : r1 = (-1 : Int)
  · have he := zif_t c3 he
    refine zif_p ((zo_eq rfl (zo_ln 1) hn2 (by decide)).mpr c3) ?_
    refine zj5_z (m1 := zo) (m2 := zo) (m3 := zo) (m4 := zo) (m5 := zoA) he (fun l4_4 v_p1_breath_5 v_p1_fine_6 v_p1_home_7 g_p1_kinds_all_8 he => ?_) (fun k9f k9 hk9 he => ?_)
    · obtain ⟨rfl, rfl, rfl, rfl, rfl⟩ := zi5 he
      exact zs5 (zo_sub (zo_ln 2000) rfl) rfl rfl rfl rfl
    refine zl6_z (m1 := zo) (m2 := zo) (m3 := zo) (m4 := zo) (m5 := zo) (m6 := zoA) (zo_l 0) (zo_l 0) rfl rfl rfl rfl he (fun l3_10 l4_11 v_p1_breath_12 v_p1_fine_13 v_p1_home_14 g_p1_kinds_all_15 again16f again16 hagain16 he => ?_)
    obtain ⟨hn4, he⟩ := zg_e he
    obtain ⟨hn5, he⟩ := zg_e he
    by_cases c6 : v_count ≤ l4_11
    · have he := zif_t c6 he
      refine zif_p ((zo_le rfl rfl hn4 hn5).mpr c6) ?_
      obtain ⟨rfl, rfl, rfl, rfl, rfl⟩ := zi5 he
      exact zs5 rfl rfl rfl rfl rfl
    · have he := zif_f c6 he
      refine zif_n (fun q => c6 ((zo_le rfl rfl hn4 hn5).mp q)) ?_
      obtain ⟨r18, v_p1_breath_19, v_p1_fine_20, v_p1_home_21, g_p1_kinds_all_22, hb7, he⟩ := zb5_e he
      refine (zb5_s (s_Letters_obey rfl rfl rfl rfl rfl rfl hb7)).trans ?_
      obtain ⟨hn8, he⟩ := zg_e he
      by_cases c9 : r18 = (0 : Int)
      · have he := zif_t c9 he
        refine zif_p ((zo_eq rfl (zo_l 0) hn8 (by decide)).mpr c9) ?_
        exact zk5 hk9 rfl rfl rfl rfl rfl he
      · have he := zif_f c9 he
        refine zif_n (fun q => c9 ((zo_eq rfl (zo_l 0) hn8 (by decide)).mp q)) ?_
        obtain ⟨x25, hx10⟩ : ∃ y : Int, y = l3_10 + (1 : Int) := ⟨_, rfl⟩
        have he := zn_e hx10 he
        refine zn_z (y := zo x25) ((zo_add rfl (zo_l 1)).trans (congrArg zo hx10.symm)) ?_
        obtain ⟨r26, hb11, he⟩ := zb1_e he
        refine (zb1_s (s_Numbers_at rfl rfl hb11)).trans ?_
        obtain ⟨r28, hb12, he⟩ := zb1_e he
        refine (zb1_s (s_Letters_formOf rfl hb12)).trans ?_
        obtain ⟨hg13, he⟩ := zg_e he
        refine zg_z hg13 ?_
        obtain ⟨r31, hb14, he⟩ := zb1_e he
        refine (zb1_s (s_String_length  hb14)).trans ?_
        obtain ⟨x33, hx15⟩ : ∃ y : Int, y = l4_11 + ((1 : Int) + r31) := ⟨_, rfl⟩
        have he := zn_e hx15 he
        refine zn_z (y := zo x33) ((zo_add rfl (zo_add (zo_l 1) rfl)).trans (congrArg zo hx15.symm)) ?_
        exact zk6 hagain16 rfl rfl rfl rfl rfl rfl he
  · have he := zif_f c3 he
    refine zif_n (fun q => c3 ((zo_eq rfl (zo_ln 1) hn2 (by decide)).mp q)) ?_
    obtain ⟨rfl, rfl, rfl, rfl, rfl⟩ := zi5 he
    exact zs5 (zo_sub (zo_ln 1000) rfl) rfl rfl rfl rfl
theorem s_Letters_forget {v_countf : Int32} {v_count : Int} {R0 : Int} (ev_count : v_countf = zo v_count) (he : g_Letters_forget v_count = some (R0)) : f_Letters_forget v_countf = some (zo R0) := by
  subst ev_count
  unfold g_Letters_forget at he
  unfold f_Letters_forget
  obtain ⟨rfl⟩ := zi1 he
  exact zs1 (zo_l 0)
theorem s_X_town {v_letters_countf : Int32} {v_letters_count : Int} {g_letters_all_allf : Nat → Int32} {g_letters_all_all : Nat → Int} {v_town_breathf : Int32} {v_town_breath : Int} {v_town_finef : Int32} {v_town_fine : Int} {v_town_homef : Int32} {v_town_home : Int} {g_town_kinds_allf : Nat → Int32} {g_town_kinds_all : Nat → Int} {v_trial_breathf : Int32} {v_trial_breath : Int} {v_trial_finef : Int32} {v_trial_fine : Int} {v_trial_homef : Int32} {v_trial_home : Int} {g_trial_kinds_allf : Nat → Int32} {g_trial_kinds_all : Nat → Int} {R0 : Int} {R1 : Int} {R2 : Int} {R3 : Int} {R4 : Int} {R5 : Nat → Int} {R6 : Int} {R7 : Int} {R8 : Int} {R9 : Nat → Int} (ev_letters_count : v_letters_countf = zo v_letters_count) (eg_letters_all_all : g_letters_all_allf = zoA g_letters_all_all) (ev_town_breath : v_town_breathf = zo v_town_breath) (ev_town_fine : v_town_finef = zo v_town_fine) (ev_town_home : v_town_homef = zo v_town_home) (eg_town_kinds_all : g_town_kinds_allf = zoA g_town_kinds_all) (ev_trial_breath : v_trial_breathf = zo v_trial_breath) (ev_trial_fine : v_trial_finef = zo v_trial_fine) (ev_trial_home : v_trial_homef = zo v_trial_home) (eg_trial_kinds_all : g_trial_kinds_allf = zoA g_trial_kinds_all) (he : g_X_town v_letters_count g_letters_all_all v_town_breath v_town_fine v_town_home g_town_kinds_all v_trial_breath v_trial_fine v_trial_home g_trial_kinds_all = some (R0, R1, R2, R3, R4, R5, R6, R7, R8, R9)) : f_X_town v_letters_countf g_letters_all_allf v_town_breathf v_town_finef v_town_homef g_town_kinds_allf v_trial_breathf v_trial_finef v_trial_homef g_trial_kinds_allf = some (zo R0, zo R1, zo R2, zo R3, zo R4, zoA R5, zo R6, zo R7, zo R8, zoA R9) := by
  subst ev_letters_count
  subst eg_letters_all_all
  subst ev_town_breath
  subst ev_town_fine
  subst ev_town_home
  subst eg_town_kinds_all
  subst ev_trial_breath
  subst ev_trial_fine
  subst ev_trial_home
  subst eg_trial_kinds_all
  unfold g_X_town at he
  unfold f_X_town
  obtain ⟨v_trial_breath_1, v_trial_fine_2, v_trial_home_3, g_trial_kinds_all_4, hb1, he⟩ := zb4_e he
  refine (zb4_s (s_Town_takeOver rfl rfl rfl rfl rfl rfl rfl rfl hb1)).trans ?_
  obtain ⟨r6, v_trial_breath_7, v_trial_fine_8, v_trial_home_9, g_trial_kinds_all_10, hb2, he⟩ := zb5_e he
  refine (zb5_s (s_Letters_build rfl rfl rfl rfl rfl rfl hb2)).trans ?_
  refine zj4_z (m1 := zo) (m2 := zo) (m3 := zo) (m4 := zoA) he (fun v_town_breath_12 v_town_fine_13 v_town_home_14 g_town_kinds_all_15 he => ?_) (fun k18f k18 hk18 he => ?_)
  · obtain ⟨v_letters_count_16, hb3, he⟩ := zb1_e he
    refine (zb1_s (s_Letters_forget rfl hb3)).trans ?_
    obtain ⟨rfl, rfl, rfl, rfl, rfl, rfl, rfl, rfl, rfl, rfl⟩ := zi10 he
    exact zs10 rfl rfl rfl rfl rfl rfl rfl rfl rfl rfl
  obtain ⟨hn4, he⟩ := zg_e he
  by_cases c5 : r6 < (0 : Int)
  · have he := zif_t c5 he
    refine zif_p ((zo_lt rfl (zo_l 0) hn4 (by decide)).mpr c5) ?_
    exact zk4 hk18 rfl rfl rfl rfl he
  · have he := zif_f c5 he
    refine zif_n (fun q => c5 ((zo_lt rfl (zo_l 0) hn4 (by decide)).mp q)) ?_
    obtain ⟨v_town_breath_20, v_town_fine_21, v_town_home_22, g_town_kinds_all_23, hb6, he⟩ := zb4_e he
    refine (zb4_s (s_Town_takeOver rfl rfl rfl rfl rfl rfl rfl rfl hb6)).trans ?_
    exact zk4 hk18 rfl rfl rfl rfl he
theorem s_Town_turnsAreCorners {g_kinds_allf : Nat → Int32} {g_kinds_all : Nat → Int} {p1f : Int32} {p1 : Int} {R0 : Int} (eg_kinds_all : g_kinds_allf = zoA g_kinds_all) (ep1 : p1f = zo p1) (he : g_Town_turnsAreCorners g_kinds_all p1 = some (R0)) : f_Town_turnsAreCorners g_kinds_allf p1f = some (zo R0) := by
  subst eg_kinds_all
  subst ep1
  unfold g_Town_turnsAreCorners at he
  unfold f_Town_turnsAreCorners
  obtain ⟨r1, hb1, he⟩ := zb1_e he
  refine (zb1_s (s_Numbers_at rfl rfl hb1)).trans ?_
  obtain ⟨r3, hb2, he⟩ := zb1_e he
  refine (zb1_s (s_Town_trait zT_KIND_CORNER rfl hb2)).trans ?_
  obtain ⟨hn3, he⟩ := zg_e he
  by_cases c4 : r3 = (0 : Int)
  · have he := zif_t c4 he
    refine zif_p ((zo_eq rfl (zo_l 0) hn3 (by decide)).mpr c4) ?_
    obtain ⟨rfl⟩ := zi1 he
    exact zs1 (zo_l 0)
  · have he := zif_f c4 he
    refine zif_n (fun q => c4 ((zo_eq rfl (zo_l 0) hn3 (by decide)).mp q)) ?_
    obtain ⟨rfl⟩ := zi1 he
    exact zs1 (zo_l 1)
theorem s_Town_hearing {g_kinds_allf : Nat → Int32} {g_kinds_all : Nat → Int} {p1f : Int32} {p1 : Int} {R0 : Int} (eg_kinds_all : g_kinds_allf = zoA g_kinds_all) (ep1 : p1f = zo p1) (he : g_Town_hearing g_kinds_all p1 = some (R0)) : f_Town_hearing g_kinds_allf p1f = some (zo R0) := by
  subst eg_kinds_all
  subst ep1
  unfold g_Town_hearing at he
  unfold f_Town_hearing
  obtain ⟨r1, hb1, he⟩ := zb1_e he
  refine (zb1_s (s_Numbers_at rfl rfl hb1)).trans ?_
  obtain ⟨r3, hb2, he⟩ := zb1_e he
  refine (zb1_s (s_Town_trait zT_KIND_HEARS rfl hb2)).trans ?_
  obtain ⟨rfl⟩ := zi1 he
  exact zs1 rfl
theorem s_Town_wordsOn {g_kinds_allf : Nat → Int32} {g_kinds_all : Nat → Int} {p1f : Int32} {p1 : Int} {R0 : Int} (eg_kinds_all : g_kinds_allf = zoA g_kinds_all) (ep1 : p1f = zo p1) (he : g_Town_wordsOn g_kinds_all p1 = some (R0)) : f_Town_wordsOn g_kinds_allf p1f = some (zo R0) := by
  subst eg_kinds_all
  subst ep1
  unfold g_Town_wordsOn at he
  unfold f_Town_wordsOn
  obtain ⟨r1, hb1, he⟩ := zb1_e he
  refine (zb1_s (s_Numbers_at rfl rfl hb1)).trans ?_
  obtain ⟨r3, hb2, he⟩ := zb1_e he
  refine (zb1_s (s_Town_trait zT_KIND_WORDS rfl hb2)).trans ?_
  obtain ⟨rfl⟩ := zi1 he
  exact zs1 rfl
theorem s_Town_kindOf {g_kinds_allf : Nat → Int32} {g_kinds_all : Nat → Int} {p1f : Int32} {p1 : Int} {R0 : Int} (eg_kinds_all : g_kinds_allf = zoA g_kinds_all) (ep1 : p1f = zo p1) (he : g_Town_kindOf g_kinds_all p1 = some (R0)) : f_Town_kindOf g_kinds_allf p1f = some (zo R0) := by
  subst eg_kinds_all
  subst ep1
  unfold g_Town_kindOf at he
  unfold f_Town_kindOf
  obtain ⟨r1, hb1, he⟩ := zb1_e he
  refine (zb1_s (s_Numbers_at rfl rfl hb1)).trans ?_
  obtain ⟨rfl⟩ := zi1 he
  exact zs1 rfl
theorem s_X_square {g_refused_allf : Nat → Int32} {g_refused_all : Nat → Int} {g_town_kinds_allf : Nat → Int32} {g_town_kinds_all : Nat → Int} {p1f : Int32} {p1 : Int} {p2f : Int32} {p2 : Int} {R0 : Int} {R1 : Nat → Int} (eg_refused_all : g_refused_allf = zoA g_refused_all) (eg_town_kinds_all : g_town_kinds_allf = zoA g_town_kinds_all) (ep1 : p1f = zo p1) (ep2 : p2f = zo p2) (he : g_X_square g_refused_all g_town_kinds_all p1 p2 = some (R0, R1)) : f_X_square g_refused_allf g_town_kinds_allf p1f p2f = some (zo R0, zoA R1) := by
  subst eg_refused_all
  subst eg_town_kinds_all
  subst ep1
  subst ep2
  unfold g_X_square at he
  unfold f_X_square
  obtain ⟨r1, hb1, he⟩ := zb1_e he
  refine (zb1_s (s_X_isSquare rfl hb1)).trans ?_
  obtain ⟨hn2, he⟩ := zg_e he
  by_cases c3 : r1 = (0 : Int)
  · have he := zif_t c3 he
    refine zif_p ((zo_eq rfl (zo_l 0) hn2 (by decide)).mpr c3) ?_
    obtain ⟨r24, g_refused_all_25, hb4, he⟩ := zb2_e he
    refine (zb2_s (s_X_refuse rfl (zo_ln 1) hb4)).trans ?_
    obtain ⟨rfl, rfl⟩ := zi2 he
    exact zs2 rfl rfl
  · have he := zif_f c3 he
    refine zif_n (fun q => c3 ((zo_eq rfl (zo_l 0) hn2 (by decide)).mp q)) ?_
    obtain ⟨hn5, he⟩ := zg_e he
    by_cases c6 : p2 = (0 : Int)
    · have he := zif_t c6 he
      refine zif_p ((zo_eq rfl (zo_l 0) hn5 (by decide)).mpr c6) ?_
      obtain ⟨r5, hb7, he⟩ := zb1_e he
      refine (zb1_s (s_Town_kindOf rfl rfl hb7)).trans ?_
      obtain ⟨rfl, rfl⟩ := zi2 he
      exact zs2 rfl rfl
    · have he := zif_f c6 he
      refine zif_n (fun q => c6 ((zo_eq rfl (zo_l 0) hn5 (by decide)).mp q)) ?_
      by_cases c8 : p2 = (1 : Int)
      · have he := zif_t c8 he
        refine zif_p ((zo_eq rfl (zo_l 1) hn5 (by decide)).mpr c8) ?_
        obtain ⟨r8, hb9, he⟩ := zb1_e he
        refine (zb1_s (s_Town_canBe rfl rfl hb9)).trans ?_
        obtain ⟨hn10, he⟩ := zg_e he
        by_cases c11 : r8 = (0 : Int)
        · have he := zif_t c11 he
          refine zif_p ((zo_eq rfl (zo_l 0) hn10 (by decide)).mpr c11) ?_
          obtain ⟨rfl, rfl⟩ := zi2 he
          exact zs2 (zo_l 0) rfl
        · have he := zif_f c11 he
          refine zif_n (fun q => c11 ((zo_eq rfl (zo_l 0) hn10 (by decide)).mp q)) ?_
          obtain ⟨rfl, rfl⟩ := zi2 he
          exact zs2 (zo_l 1) rfl
      · have he := zif_f c8 he
        refine zif_n (fun q => c8 ((zo_eq rfl (zo_l 1) hn5 (by decide)).mp q)) ?_
        by_cases c12 : p2 = (2 : Int)
        · have he := zif_t c12 he
          refine zif_p ((zo_eq rfl (zo_l 2) hn5 (by decide)).mpr c12) ?_
          obtain ⟨r12, hb13, he⟩ := zb1_e he
          refine (zb1_s (s_Town_wordsOn rfl rfl hb13)).trans ?_
          obtain ⟨rfl, rfl⟩ := zi2 he
          exact zs2 rfl rfl
        · have he := zif_f c12 he
          refine zif_n (fun q => c12 ((zo_eq rfl (zo_l 2) hn5 (by decide)).mp q)) ?_
          by_cases c14 : p2 = (3 : Int)
          · have he := zif_t c14 he
            refine zif_p ((zo_eq rfl (zo_l 3) hn5 (by decide)).mpr c14) ?_
            obtain ⟨r15, hb15, he⟩ := zb1_e he
            refine (zb1_s (s_Town_hearing rfl rfl hb15)).trans ?_
            obtain ⟨rfl, rfl⟩ := zi2 he
            exact zs2 rfl rfl
          · have he := zif_f c14 he
            refine zif_n (fun q => c14 ((zo_eq rfl (zo_l 3) hn5 (by decide)).mp q)) ?_
            by_cases c16 : p2 = (4 : Int)
            · have he := zif_t c16 he
              refine zif_p ((zo_eq rfl (zo_l 4) hn5 (by decide)).mpr c16) ?_
              obtain ⟨r18, hb17, he⟩ := zb1_e he
              refine (zb1_s (s_Town_turnsAreCorners rfl rfl hb17)).trans ?_
              obtain ⟨hn18, he⟩ := zg_e he
              by_cases c19 : r18 = (0 : Int)
              · have he := zif_t c19 he
                refine zif_p ((zo_eq rfl (zo_l 0) hn18 (by decide)).mpr c19) ?_
                obtain ⟨rfl, rfl⟩ := zi2 he
                exact zs2 (zo_l 0) rfl
              · have he := zif_f c19 he
                refine zif_n (fun q => c19 ((zo_eq rfl (zo_l 0) hn18 (by decide)).mp q)) ?_
                obtain ⟨rfl, rfl⟩ := zi2 he
                exact zs2 (zo_l 1) rfl
            · have he := zif_f c16 he
              refine zif_n (fun q => c16 ((zo_eq rfl (zo_l 4) hn5 (by decide)).mp q)) ?_
              obtain ⟨r21, g_refused_all_22, hb20, he⟩ := zb2_e he
              refine (zb2_s (s_X_refuse rfl (zo_ln 2) hb20)).trans ?_
              obtain ⟨rfl, rfl⟩ := zi2 he
              exact zs2 rfl rfl
theorem s_X_turnTo {g_refused_allf : Nat → Int32} {g_refused_all : Nat → Int} {v_town_homef : Int32} {v_town_home : Int} {g_town_kinds_allf : Nat → Int32} {g_town_kinds_all : Nat → Int} {p1f : Int32} {p1 : Int} {p2f : Int32} {p2 : Int} {R0 : Int} {R1 : Nat → Int} {R2 : Nat → Int} (eg_refused_all : g_refused_allf = zoA g_refused_all) (ev_town_home : v_town_homef = zo v_town_home) (eg_town_kinds_all : g_town_kinds_allf = zoA g_town_kinds_all) (ep1 : p1f = zo p1) (ep2 : p2f = zo p2) (he : g_X_turnTo g_refused_all v_town_home g_town_kinds_all p1 p2 = some (R0, R1, R2)) : f_X_turnTo g_refused_allf v_town_homef g_town_kinds_allf p1f p2f = some (zo R0, zoA R1, zoA R2) := by
  subst eg_refused_all
  subst ev_town_home
  subst eg_town_kinds_all
  subst ep1
  subst ep2
  unfold g_X_turnTo at he
  unfold f_X_turnTo
  obtain ⟨r1, hb1, he⟩ := zb1_e he
  refine (zb1_s (s_X_isSquare rfl hb1)).trans ?_
  obtain ⟨hn2, he⟩ := zg_e he
  by_cases c3 : r1 = (0 : Int)
  · have he := zif_t c3 he
    refine zif_p ((zo_eq rfl (zo_l 0) hn2 (by decide)).mpr c3) ?_
    obtain ⟨r19, g_refused_all_20, hb4, he⟩ := zb2_e he
    refine (zb2_s (s_X_refuse rfl (zo_ln 1) hb4)).trans ?_
    obtain ⟨rfl, rfl, rfl⟩ := zi3 he
    exact zs3 rfl rfl rfl
  · have he := zif_f c3 he
    refine zif_n (fun q => c3 ((zo_eq rfl (zo_l 0) hn2 (by decide)).mp q)) ?_
    refine zj1_z (m1 := id) he (fun _ he => ?_) (fun k7f k7 hk7 he => ?_)
    · obtain ⟨r4, g_refused_all_5, hb5, he⟩ := zb2_e he
      refine (zb2_s (s_X_refuse rfl (zo_ln 2) hb5)).trans ?_
      obtain ⟨rfl, rfl, rfl⟩ := zi3 he
      exact zs3 rfl rfl rfl
    obtain ⟨hn6, he⟩ := zg_e he
    by_cases c7 : p2 < (0 : Int)
    · have he := zif_t c7 he
      refine zif_p ((zo_lt rfl (zo_l 0) hn6 (by decide)).mpr c7) ?_
      exact zk1 hk7 rfl he
    · have he := zif_f c7 he
      refine zif_n (fun q => c7 ((zo_lt rfl (zo_l 0) hn6 (by decide)).mp q)) ?_
      by_cases c8 : p2 < (6 : Int)
      · have he := zif_t c8 he
        refine zif_p ((zo_lt rfl (zo_l 6) hn6 (by decide)).mpr c8) ?_
        obtain ⟨r10, hb9, he⟩ := zb1_e he
        refine (zb1_s (s_Town_kindOf rfl rfl hb9)).trans ?_
        obtain ⟨r12, g_town_kinds_all_13, hb10, he⟩ := zb2_e he
        refine (zb2_s (s_Town_rebuild rfl rfl rfl rfl rfl hb10)).trans ?_
        obtain ⟨hn11, he⟩ := zg_e he
        by_cases c12 : r12 = (0 : Int)
        · have he := zif_t c12 he
          refine zif_p ((zo_eq rfl (zo_l 0) hn11 (by decide)).mpr c12) ?_
          obtain ⟨r16, g_refused_all_17, hb13, he⟩ := zb2_e he
          refine (zb2_s (s_X_refuse rfl (zo_ln 3) hb13)).trans ?_
          obtain ⟨rfl, rfl, rfl⟩ := zi3 he
          exact zs3 rfl rfl rfl
        · have he := zif_f c12 he
          refine zif_n (fun q => c12 ((zo_eq rfl (zo_l 0) hn11 (by decide)).mp q)) ?_
          obtain ⟨rfl, rfl, rfl⟩ := zi3 he
          exact zs3 rfl rfl rfl
      · have he := zif_f c8 he
        refine zif_n (fun q => c8 ((zo_lt rfl (zo_l 6) hn6 (by decide)).mp q)) ?_
        exact zk1 hk7 rfl he
theorem s_Town_breath {v_breathf : Int32} {v_breath : Int} {R0 : Int} (ev_breath : v_breathf = zo v_breath) (he : g_Town_breath v_breath = some (R0)) : f_Town_breath v_breathf = some (zo R0) := by
  subst ev_breath
  unfold g_Town_breath at he
  unfold f_Town_breath
  obtain ⟨rfl⟩ := zi1 he
  exact zs1 rfl
theorem s_X_setBreath {g_refused_allf : Nat → Int32} {g_refused_all : Nat → Int} {v_town_breathf : Int32} {v_town_breath : Int} {p1f : Int32} {p1 : Int} {R0 : Int} {R1 : Nat → Int} {R2 : Int} (eg_refused_all : g_refused_allf = zoA g_refused_all) (ev_town_breath : v_town_breathf = zo v_town_breath) (ep1 : p1f = zo p1) (he : g_X_setBreath g_refused_all v_town_breath p1 = some (R0, R1, R2)) : f_X_setBreath g_refused_allf v_town_breathf p1f = some (zo R0, zoA R1, zo R2) := by
  subst eg_refused_all
  subst ev_town_breath
  subst ep1
  unfold g_X_setBreath at he
  unfold f_X_setBreath
  obtain ⟨hn1, he⟩ := zg_e he
  by_cases c2 : (1 : Int) ≤ p1
  · have he := zif_t c2 he
    refine zif_p ((zo_le (zo_l 1) rfl (by decide) hn1).mpr c2) ?_
    obtain ⟨r2, hb3, he⟩ := zb1_e he
    refine (zb1_s (s_Town_breath rfl hb3)).trans ?_
    obtain ⟨r4, v_town_breath_5, hb4, he⟩ := zb2_e he
    refine (zb2_s (s_Town_changeBreath rfl rfl hb4)).trans ?_
    obtain ⟨hn5, he⟩ := zg_e he
    by_cases c6 : r4 = (0 : Int)
    · have he := zif_t c6 he
      refine zif_p ((zo_eq rfl (zo_l 0) hn5 (by decide)).mpr c6) ?_
      obtain ⟨r8, g_refused_all_9, hb7, he⟩ := zb2_e he
      refine (zb2_s (s_X_refuse rfl (zo_ln 6) hb7)).trans ?_
      obtain ⟨rfl, rfl, rfl⟩ := zi3 he
      exact zs3 rfl rfl rfl
    · have he := zif_f c6 he
      refine zif_n (fun q => c6 ((zo_eq rfl (zo_l 0) hn5 (by decide)).mp q)) ?_
      obtain ⟨rfl, rfl, rfl⟩ := zi3 he
      exact zs3 rfl rfl rfl
  · have he := zif_f c2 he
    refine zif_n (fun q => c2 ((zo_le (zo_l 1) rfl (by decide) hn1).mp q)) ?_
    obtain ⟨r11, g_refused_all_12, hb8, he⟩ := zb2_e he
    refine (zb2_s (s_X_refuse rfl (zo_ln 4) hb8)).trans ?_
    obtain ⟨rfl, rfl, rfl⟩ := zi3 he
    exact zs3 rfl rfl rfl
theorem s_Town_fine {v_finef : Int32} {v_fine : Int} {R0 : Int} (ev_fine : v_finef = zo v_fine) (he : g_Town_fine v_fine = some (R0)) : f_Town_fine v_finef = some (zo R0) := by
  subst ev_fine
  unfold g_Town_fine at he
  unfold f_Town_fine
  obtain ⟨rfl⟩ := zi1 he
  exact zs1 rfl
theorem s_X_setFine {g_refused_allf : Nat → Int32} {g_refused_all : Nat → Int} {v_town_finef : Int32} {v_town_fine : Int} {p1f : Int32} {p1 : Int} {R0 : Int} {R1 : Nat → Int} {R2 : Int} (eg_refused_all : g_refused_allf = zoA g_refused_all) (ev_town_fine : v_town_finef = zo v_town_fine) (ep1 : p1f = zo p1) (he : g_X_setFine g_refused_all v_town_fine p1 = some (R0, R1, R2)) : f_X_setFine g_refused_allf v_town_finef p1f = some (zo R0, zoA R1, zo R2) := by
  subst eg_refused_all
  subst ev_town_fine
  subst ep1
  unfold g_X_setFine at he
  unfold f_X_setFine
  obtain ⟨hn1, he⟩ := zg_e he
  by_cases c2 : (0 : Int) ≤ p1
  · have he := zif_t c2 he
    refine zif_p ((zo_le (zo_l 0) rfl (by decide) hn1).mpr c2) ?_
    obtain ⟨r2, hb3, he⟩ := zb1_e he
    refine (zb1_s (s_Town_fine rfl hb3)).trans ?_
    obtain ⟨r4, v_town_fine_5, hb4, he⟩ := zb2_e he
    refine (zb2_s (s_Town_changeFine rfl rfl hb4)).trans ?_
    obtain ⟨hn5, he⟩ := zg_e he
    by_cases c6 : r4 = (0 : Int)
    · have he := zif_t c6 he
      refine zif_p ((zo_eq rfl (zo_l 0) hn5 (by decide)).mpr c6) ?_
      obtain ⟨r8, g_refused_all_9, hb7, he⟩ := zb2_e he
      refine (zb2_s (s_X_refuse rfl (zo_ln 6) hb7)).trans ?_
      obtain ⟨rfl, rfl, rfl⟩ := zi3 he
      exact zs3 rfl rfl rfl
    · have he := zif_f c6 he
      refine zif_n (fun q => c6 ((zo_eq rfl (zo_l 0) hn5 (by decide)).mp q)) ?_
      obtain ⟨rfl, rfl, rfl⟩ := zi3 he
      exact zs3 rfl rfl rfl
  · have he := zif_f c2 he
    refine zif_n (fun q => c2 ((zo_le (zo_l 0) rfl (by decide) hn1).mp q)) ?_
    obtain ⟨r11, g_refused_all_12, hb8, he⟩ := zb2_e he
    refine (zb2_s (s_X_refuse rfl (zo_ln 4) hb8)).trans ?_
    obtain ⟨rfl, rfl, rfl⟩ := zi3 he
    exact zs3 rfl rfl rfl
theorem s_Town_home {v_homef : Int32} {v_home : Int} {R0 : Int} (ev_home : v_homef = zo v_home) (he : g_Town_home v_home = some (R0)) : f_Town_home v_homef = some (zo R0) := by
  subst ev_home
  unfold g_Town_home at he
  unfold f_Town_home
  obtain ⟨rfl⟩ := zi1 he
  exact zs1 rfl
theorem s_X_setHome {g_refused_allf : Nat → Int32} {g_refused_all : Nat → Int} {v_town_homef : Int32} {v_town_home : Int} {g_town_kinds_allf : Nat → Int32} {g_town_kinds_all : Nat → Int} {p1f : Int32} {p1 : Int} {R0 : Int} {R1 : Nat → Int} {R2 : Int} (eg_refused_all : g_refused_allf = zoA g_refused_all) (ev_town_home : v_town_homef = zo v_town_home) (eg_town_kinds_all : g_town_kinds_allf = zoA g_town_kinds_all) (ep1 : p1f = zo p1) (he : g_X_setHome g_refused_all v_town_home g_town_kinds_all p1 = some (R0, R1, R2)) : f_X_setHome g_refused_allf v_town_homef g_town_kinds_allf p1f = some (zo R0, zoA R1, zo R2) := by
  subst eg_refused_all
  subst ev_town_home
  subst eg_town_kinds_all
  subst ep1
  unfold g_X_setHome at he
  unfold f_X_setHome
  obtain ⟨r1, hb1, he⟩ := zb1_e he
  refine (zb1_s (s_X_isSquare rfl hb1)).trans ?_
  obtain ⟨hn2, he⟩ := zg_e he
  by_cases c3 : r1 = (0 : Int)
  · have he := zif_t c3 he
    refine zif_p ((zo_eq rfl (zo_l 0) hn2 (by decide)).mpr c3) ?_
    obtain ⟨r13, g_refused_all_14, hb4, he⟩ := zb2_e he
    refine (zb2_s (s_X_refuse rfl (zo_ln 1) hb4)).trans ?_
    obtain ⟨rfl, rfl, rfl⟩ := zi3 he
    exact zs3 rfl rfl rfl
  · have he := zif_f c3 he
    refine zif_n (fun q => c3 ((zo_eq rfl (zo_l 0) hn2 (by decide)).mp q)) ?_
    obtain ⟨r4, hb5, he⟩ := zb1_e he
    refine (zb1_s (s_Town_home rfl hb5)).trans ?_
    obtain ⟨r6, v_town_home_7, hb6, he⟩ := zb2_e he
    refine (zb2_s (s_Town_moveHome rfl rfl rfl hb6)).trans ?_
    obtain ⟨hn7, he⟩ := zg_e he
    by_cases c8 : r6 = (0 : Int)
    · have he := zif_t c8 he
      refine zif_p ((zo_eq rfl (zo_l 0) hn7 (by decide)).mpr c8) ?_
      obtain ⟨r10, g_refused_all_11, hb9, he⟩ := zb2_e he
      refine (zb2_s (s_X_refuse rfl (zo_ln 3) hb9)).trans ?_
      obtain ⟨rfl, rfl, rfl⟩ := zi3 he
      exact zs3 rfl rfl rfl
    · have he := zif_f c8 he
      refine zif_n (fun q => c8 ((zo_eq rfl (zo_l 0) hn7 (by decide)).mp q)) ?_
      obtain ⟨rfl, rfl, rfl⟩ := zi3 he
      exact zs3 rfl rfl rfl
theorem s_X_set {g_refused_allf : Nat → Int32} {g_refused_all : Nat → Int} {v_town_breathf : Int32} {v_town_breath : Int} {v_town_finef : Int32} {v_town_fine : Int} {v_town_homef : Int32} {v_town_home : Int} {g_town_kinds_allf : Nat → Int32} {g_town_kinds_all : Nat → Int} {p1f : Int32} {p1 : Int} {p2f : Int32} {p2 : Int} {R0 : Int} {R1 : Nat → Int} {R2 : Int} {R3 : Int} {R4 : Int} (eg_refused_all : g_refused_allf = zoA g_refused_all) (ev_town_breath : v_town_breathf = zo v_town_breath) (ev_town_fine : v_town_finef = zo v_town_fine) (ev_town_home : v_town_homef = zo v_town_home) (eg_town_kinds_all : g_town_kinds_allf = zoA g_town_kinds_all) (ep1 : p1f = zo p1) (ep2 : p2f = zo p2) (he : g_X_set g_refused_all v_town_breath v_town_fine v_town_home g_town_kinds_all p1 p2 = some (R0, R1, R2, R3, R4)) : f_X_set g_refused_allf v_town_breathf v_town_finef v_town_homef g_town_kinds_allf p1f p2f = some (zo R0, zoA R1, zo R2, zo R3, zo R4) := by
  subst eg_refused_all
  subst ev_town_breath
  subst ev_town_fine
  subst ev_town_home
  subst eg_town_kinds_all
  subst ep1
  subst ep2
  unfold g_X_set at he
  unfold f_X_set
  obtain ⟨hn1, he⟩ := zg_e he
  by_cases c2 : p1 = (0 : Int)
  · have he := zif_t c2 he
    refine zif_p ((zo_eq rfl (zo_l 0) hn1 (by decide)).mpr c2) ?_
    obtain ⟨r2, g_refused_all_3, v_town_home_4, hb3, he⟩ := zb3_e he
    refine (zb3_s (s_X_setHome rfl rfl rfl rfl hb3)).trans ?_
    obtain ⟨rfl, rfl, rfl, rfl, rfl⟩ := zi5 he
    exact zs5 rfl rfl rfl rfl rfl
  · have he := zif_f c2 he
    refine zif_n (fun q => c2 ((zo_eq rfl (zo_l 0) hn1 (by decide)).mp q)) ?_
    by_cases c4 : p1 = (1 : Int)
    · have he := zif_t c4 he
      refine zif_p ((zo_eq rfl (zo_l 1) hn1 (by decide)).mpr c4) ?_
      obtain ⟨r7, g_refused_all_8, v_town_fine_9, hb5, he⟩ := zb3_e he
      refine (zb3_s (s_X_setFine rfl rfl rfl hb5)).trans ?_
      obtain ⟨rfl, rfl, rfl, rfl, rfl⟩ := zi5 he
      exact zs5 rfl rfl rfl rfl rfl
    · have he := zif_f c4 he
      refine zif_n (fun q => c4 ((zo_eq rfl (zo_l 1) hn1 (by decide)).mp q)) ?_
      by_cases c6 : p1 = (2 : Int)
      · have he := zif_t c6 he
        refine zif_p ((zo_eq rfl (zo_l 2) hn1 (by decide)).mpr c6) ?_
        obtain ⟨r12, g_refused_all_13, v_town_breath_14, hb7, he⟩ := zb3_e he
        refine (zb3_s (s_X_setBreath rfl rfl rfl hb7)).trans ?_
        obtain ⟨rfl, rfl, rfl, rfl, rfl⟩ := zi5 he
        exact zs5 rfl rfl rfl rfl rfl
      · have he := zif_f c6 he
        refine zif_n (fun q => c6 ((zo_eq rfl (zo_l 2) hn1 (by decide)).mp q)) ?_
        obtain ⟨r16, g_refused_all_17, hb8, he⟩ := zb2_e he
        refine (zb2_s (s_X_refuse rfl (zo_ln 2) hb8)).trans ?_
        obtain ⟨rfl, rfl, rfl, rfl, rfl⟩ := zi5 he
        exact zs5 rfl rfl rfl rfl rfl
theorem s_Town_apart {p0f : Int32} {p0 : Int} {p1f : Int32} {p1 : Int} {R0 : Int} (ep0 : p0f = zo p0) (ep1 : p1f = zo p1) (he : g_Town_apart p0 p1 = some (R0)) : f_Town_apart p0f p1f = some (zo R0) := by
  subst ep0
  subst ep1
  unfold g_Town_apart at he
  unfold f_Town_apart
  obtain ⟨hn1, he⟩ := zg_e he
  obtain ⟨hn2, he⟩ := zg_e he
  obtain ⟨hn3, he⟩ := zg_e he
  obtain ⟨x1, hx4⟩ : ∃ y : Int, y = (((p0 / (6 : Int)) - (p1 / (6 : Int))).natAbs : Int) := ⟨_, rfl⟩
  have he := zn_e hx4 he
  refine zn_z (y := zo x1) ((zo_abs (zo_sub (zo_div rfl (zo_l 6) hn1 (by decide)) (zo_div rfl (zo_l 6) hn2 (by decide))) hn3).trans (congrArg zo hx4.symm)) ?_
  obtain ⟨hn5, he⟩ := zg_e he
  obtain ⟨x2, hx6⟩ : ∃ y : Int, y = (((p0 % (6 : Int)) - (p1 % (6 : Int))).natAbs : Int) := ⟨_, rfl⟩
  have he := zn_e hx6 he
  refine zn_z (y := zo x2) ((zo_abs (zo_sub (zo_rem rfl (zo_l 6) hn1 (by decide)) (zo_rem rfl (zo_l 6) hn2 (by decide))) hn5).trans (congrArg zo hx6.symm)) ?_
  obtain ⟨rfl⟩ := zi1 he
  exact zs1 (zo_add rfl rfl)
theorem s_Town_heardBy {g_kinds_allf : Nat → Int32} {g_kinds_all : Nat → Int} {p1f : Int32} {p1 : Int} {R0 : Int} (eg_kinds_all : g_kinds_allf = zoA g_kinds_all) (ep1 : p1f = zo p1) (he : g_Town_heardBy g_kinds_all p1 = some (R0)) : f_Town_heardBy g_kinds_allf p1f = some (zo R0) := by
  subst eg_kinds_all
  subst ep1
  unfold g_Town_heardBy at he
  unfold f_Town_heardBy
  refine zl2_z (m1 := zo) (m2 := zo) (zo_l 0) (zo_l 0) he (fun l2_1 l3_2 again3f again3 hagain3 he => ?_)
  obtain ⟨hn1, he⟩ := zg_e he
  by_cases c2 : (36 : Int) ≤ l3_2
  · have he := zif_t c2 he
    refine zif_p ((zo_le (zo_l 36) rfl (by decide) hn1).mpr c2) ?_
    obtain ⟨rfl⟩ := zi1 he
    exact zs1 rfl
  · have he := zif_f c2 he
    refine zif_n (fun q => c2 ((zo_le (zo_l 36) rfl (by decide) hn1).mp q)) ?_
    obtain ⟨r5, hb3, he⟩ := zb1_e he
    refine (zb1_s (s_Town_apart rfl rfl hb3)).trans ?_
    obtain ⟨r7, hb4, he⟩ := zb1_e he
    refine (zb1_s (s_Town_hearing rfl rfl hb4)).trans ?_
    refine zj1_z (m1 := zo) he (fun s9 he => ?_) (fun k12f k12 hk12 he => ?_)
    · obtain ⟨x10, hx5⟩ : ∃ y : Int, y = l2_1 + s9 := ⟨_, rfl⟩
      have he := zn_e hx5 he
      refine zn_z (y := zo x10) ((zo_add rfl rfl).trans (congrArg zo hx5.symm)) ?_
      obtain ⟨x11, hx6⟩ : ∃ y : Int, y = l3_2 + (1 : Int) := ⟨_, rfl⟩
      have he := zn_e hx6 he
      refine zn_z (y := zo x11) ((zo_add rfl (zo_l 1)).trans (congrArg zo hx6.symm)) ?_
      exact zk2 hagain3 rfl rfl he
    obtain ⟨hn7, he⟩ := zg_e he
    obtain ⟨hn8, he⟩ := zg_e he
    by_cases c9 : r7 < r5
    · have he := zif_t c9 he
      refine zif_p ((zo_lt rfl rfl hn7 hn8).mpr c9) ?_
      exact zk1 hk12 (zo_l 0) he
    · have he := zif_f c9 he
      refine zif_n (fun q => c9 ((zo_lt rfl rfl hn7 hn8).mp q)) ?_
      exact zk1 hk12 (zo_l 1) he
theorem s_X_heard {g_refused_allf : Nat → Int32} {g_refused_all : Nat → Int} {g_town_kinds_allf : Nat → Int32} {g_town_kinds_all : Nat → Int} {p1f : Int32} {p1 : Int} {R0 : Int} {R1 : Nat → Int} (eg_refused_all : g_refused_allf = zoA g_refused_all) (eg_town_kinds_all : g_town_kinds_allf = zoA g_town_kinds_all) (ep1 : p1f = zo p1) (he : g_X_heard g_refused_all g_town_kinds_all p1 = some (R0, R1)) : f_X_heard g_refused_allf g_town_kinds_allf p1f = some (zo R0, zoA R1) := by
  subst eg_refused_all
  subst eg_town_kinds_all
  subst ep1
  unfold g_X_heard at he
  unfold f_X_heard
  obtain ⟨r1, hb1, he⟩ := zb1_e he
  refine (zb1_s (s_X_isSquare rfl hb1)).trans ?_
  obtain ⟨hn2, he⟩ := zg_e he
  by_cases c3 : r1 = (0 : Int)
  · have he := zif_t c3 he
    refine zif_p ((zo_eq rfl (zo_l 0) hn2 (by decide)).mpr c3) ?_
    obtain ⟨r6, g_refused_all_7, hb4, he⟩ := zb2_e he
    refine (zb2_s (s_X_refuse rfl (zo_ln 1) hb4)).trans ?_
    obtain ⟨rfl, rfl⟩ := zi2 he
    exact zs2 rfl rfl
  · have he := zif_f c3 he
    refine zif_n (fun q => c3 ((zo_eq rfl (zo_l 0) hn2 (by decide)).mp q)) ?_
    obtain ⟨r4, hb5, he⟩ := zb1_e he
    refine (zb1_s (s_Town_heardBy rfl rfl hb5)).trans ?_
    obtain ⟨rfl, rfl⟩ := zi2 he
    exact zs2 rfl rfl
theorem s_X_isRowOfWays {v_toldCountf : Int32} {v_toldCount : Int} {g_told_allf : Nat → Int32} {g_told_all : Nat → Int} {R0 : Int} (ev_toldCount : v_toldCountf = zo v_toldCount) (eg_told_all : g_told_allf = zoA g_told_all) (he : g_X_isRowOfWays v_toldCount g_told_all = some (R0)) : f_X_isRowOfWays v_toldCountf g_told_allf = some (zo R0) := by
  subst ev_toldCount
  subst eg_told_all
  unfold g_X_isRowOfWays at he
  unfold f_X_isRowOfWays
  refine zl1_z (m1 := zo) (zo_l 0) he (fun l1_1 again2f again2 hagain2 he => ?_)
  obtain ⟨hn1, he⟩ := zg_e he
  obtain ⟨hn2, he⟩ := zg_e he
  by_cases c3 : v_toldCount ≤ l1_1
  · have he := zif_t c3 he
    refine zif_p ((zo_le rfl rfl hn1 hn2).mpr c3) ?_
    obtain ⟨rfl⟩ := zi1 he
    exact zs1 (zo_l 1)
  · have he := zif_f c3 he
    refine zif_n (fun q => c3 ((zo_le rfl rfl hn1 hn2).mp q)) ?_
    obtain ⟨r4, hb4, he⟩ := zb1_e he
    refine (zb1_s (s_Numbers_at rfl rfl hb4)).trans ?_
    obtain ⟨hn5, he⟩ := zg_e he
    by_cases c6 : r4 < (4 : Int)
    · have he := zif_t c6 he
      refine zif_p ((zo_lt rfl (zo_l 4) hn5 (by decide)).mpr c6) ?_
      obtain ⟨x7, hx7⟩ : ∃ y : Int, y = l1_1 + (1 : Int) := ⟨_, rfl⟩
      have he := zn_e hx7 he
      refine zn_z (y := zo x7) ((zo_add rfl (zo_l 1)).trans (congrArg zo hx7.symm)) ?_
      exact zk1 hagain2 rfl he
    · have he := zif_f c6 he
      refine zif_n (fun q => c6 ((zo_lt rfl (zo_l 4) hn5 (by decide)).mp q)) ?_
      obtain ⟨rfl⟩ := zi1 he
      exact zs1 (zo_l 0)
theorem s_Numbers_fill {n : Nat} {g_allf : Nat → Int32} {g_all : Nat → Int} {p1f : Int32} {p1 : Int} {R0 : Nat → Int} (eg_all : g_allf = zoA g_all) (ep1 : p1f = zo p1) (he : g_Numbers_fill n g_all p1 = some (R0)) : f_Numbers_fill n g_allf p1f = some (zoA R0) := by
  subst eg_all
  subst ep1
  unfold g_Numbers_fill at he
  unfold f_Numbers_fill
  refine zl2_z (m1 := zo) (m2 := zoA) (zo_l 0) rfl he (fun l2_1 g_all_2 again3f again3 hagain3 he => ?_)
  obtain ⟨hn1, he⟩ := zg_e he
  obtain ⟨hn2, he⟩ := zg_e he
  by_cases c3 : ((n : Nat) : Int) ≤ l2_1
  · have he := zif_t c3 he
    refine zif_p ((zo_le (zo_nI n) rfl hn1 hn2).mpr c3) ?_
    obtain ⟨rfl⟩ := zi1 he
    exact zs1 rfl
  · have he := zif_f c3 he
    refine zif_n (fun q => c3 ((zo_le (zo_nI n) rfl hn1 hn2).mp q)) ?_
    obtain ⟨hg5, he⟩ := zg_e he
    have hg4 := zin4 hg5
    refine zg_z (zo_in rfl hg4) ?_
    obtain ⟨g6, hx6⟩ : ∃ y : Nat → Int, y = updI g_all_2 l2_1.toNat p1 := ⟨_, rfl⟩
    have he := zn_e hx6 he
    refine zn_z (y := zoA g6) ((zo_upd rfl rfl hg4 rfl).trans (congrArg zoA hx6.symm)) ?_
    obtain ⟨x7, hx7⟩ : ∃ y : Int, y = l2_1 + (1 : Int) := ⟨_, rfl⟩
    have he := zn_e hx7 he
    refine zn_z (y := zo x7) ((zo_add rfl (zo_l 1)).trans (congrArg zo hx7.symm)) ?_
    exact zk2 hagain3 rfl rfl he
theorem s_Stroll_begin {v_allCornersf : Int32} {v_allCorners : Int} {v_allCutsf : Int32} {v_allCuts : Int} {v_allWordsf : Int32} {v_allWords : Int} {v_camef : Int32} {v_came : Int} {v_longestRunf : Int32} {v_longestRun : Int} {v_runf : Int32} {v_run : Int} {v_squaref : Int32} {v_square : Int} {g_spoken_allf : Nat → Int32} {g_spoken_all : Nat → Int} {v_town_homef : Int32} {v_town_home : Int} {R0 : Int} {R1 : Int} {R2 : Int} {R3 : Int} {R4 : Int} {R5 : Int} {R6 : Int} {R7 : Nat → Int} (ev_allCorners : v_allCornersf = zo v_allCorners) (ev_allCuts : v_allCutsf = zo v_allCuts) (ev_allWords : v_allWordsf = zo v_allWords) (ev_came : v_camef = zo v_came) (ev_longestRun : v_longestRunf = zo v_longestRun) (ev_run : v_runf = zo v_run) (ev_square : v_squaref = zo v_square) (eg_spoken_all : g_spoken_allf = zoA g_spoken_all) (ev_town_home : v_town_homef = zo v_town_home) (he : g_Stroll_begin v_allCorners v_allCuts v_allWords v_came v_longestRun v_run v_square g_spoken_all v_town_home = some (R0, R1, R2, R3, R4, R5, R6, R7)) : f_Stroll_begin v_allCornersf v_allCutsf v_allWordsf v_camef v_longestRunf v_runf v_squaref g_spoken_allf v_town_homef = some (zo R0, zo R1, zo R2, zo R3, zo R4, zo R5, zo R6, zoA R7) := by
  subst ev_allCorners
  subst ev_allCuts
  subst ev_allWords
  subst ev_came
  subst ev_longestRun
  subst ev_run
  subst ev_square
  subst eg_spoken_all
  subst ev_town_home
  unfold g_Stroll_begin at he
  unfold f_Stroll_begin
  obtain ⟨r1, hb1, he⟩ := zb1_e he
  refine (zb1_s (s_Town_home rfl hb1)).trans ?_
  obtain ⟨g_spoken_all_3, hb2, he⟩ := zb1_e he
  refine (zb1_s (s_Numbers_fill rfl (zo_l 0) hb2)).trans ?_
  obtain ⟨rfl, rfl, rfl, rfl, rfl, rfl, rfl, rfl⟩ := zi8 he
  exact zs8 (zo_l 0) (zo_l 0) (zo_l 0) (zo_l 4) (zo_l 0) (zo_l 0) rfl rfl
theorem s_Stroll_speak {v_allWordsf : Int32} {v_allWords : Int} {v_runf : Int32} {v_run : Int} {v_squaref : Int32} {v_square : Int} {g_spoken_allf : Nat → Int32} {g_spoken_all : Nat → Int} {g_town_kinds_allf : Nat → Int32} {g_town_kinds_all : Nat → Int} {R0 : Int} {R1 : Int} {R2 : Nat → Int} (ev_allWords : v_allWordsf = zo v_allWords) (ev_run : v_runf = zo v_run) (ev_square : v_squaref = zo v_square) (eg_spoken_all : g_spoken_allf = zoA g_spoken_all) (eg_town_kinds_all : g_town_kinds_allf = zoA g_town_kinds_all) (he : g_Stroll_speak v_allWords v_run v_square g_spoken_all g_town_kinds_all = some (R0, R1, R2)) : f_Stroll_speak v_allWordsf v_runf v_squaref g_spoken_allf g_town_kinds_allf = some (zo R0, zo R1, zoA R2) := by
  subst ev_allWords
  subst ev_run
  subst ev_square
  subst eg_spoken_all
  subst eg_town_kinds_all
  unfold g_Stroll_speak at he
  unfold f_Stroll_speak
  obtain ⟨r1, hb1, he⟩ := zb1_e he
  refine (zb1_s (s_Town_wordsOn rfl rfl hb1)).trans ?_
  obtain ⟨x3, hx2⟩ : ∃ y : Int, y = v_allWords + r1 := ⟨_, rfl⟩
  have he := zn_e hx2 he
  refine zn_z (y := zo x3) ((zo_add rfl rfl).trans (congrArg zo hx2.symm)) ?_
  obtain ⟨r4, hb3, he⟩ := zb1_e he
  refine (zb1_s (s_Numbers_at rfl rfl hb3)).trans ?_
  obtain ⟨g_spoken_all_6, hb4, he⟩ := zb1_e he
  refine (zb1_s (s_Numbers_put rfl rfl (zo_add rfl (zo_l 1)) hb4)).trans ?_
  obtain ⟨r8, hb5, he⟩ := zb1_e he
  refine (zb1_s (s_Town_wordsOn rfl rfl hb5)).trans ?_
  obtain ⟨x10, hx6⟩ : ∃ y : Int, y = v_run + r8 := ⟨_, rfl⟩
  have he := zn_e hx6 he
  refine zn_z (y := zo x10) ((zo_add rfl rfl).trans (congrArg zo hx6.symm)) ?_
  obtain ⟨rfl, rfl, rfl⟩ := zi3 he
  exact zs3 rfl rfl rfl
theorem s_Stroll_endRun {v_allCutsf : Int32} {v_allCuts : Int} {v_longestRunf : Int32} {v_longestRun : Int} {v_runf : Int32} {v_run : Int} {v_town_breathf : Int32} {v_town_breath : Int} {R0 : Int} {R1 : Int} {R2 : Int} (ev_allCuts : v_allCutsf = zo v_allCuts) (ev_longestRun : v_longestRunf = zo v_longestRun) (ev_run : v_runf = zo v_run) (ev_town_breath : v_town_breathf = zo v_town_breath) (he : g_Stroll_endRun v_allCuts v_longestRun v_run v_town_breath = some (R0, R1, R2)) : f_Stroll_endRun v_allCutsf v_longestRunf v_runf v_town_breathf = some (zo R0, zo R1, zo R2) := by
  subst ev_allCuts
  subst ev_longestRun
  subst ev_run
  subst ev_town_breath
  unfold g_Stroll_endRun at he
  unfold f_Stroll_endRun
  obtain ⟨r1, hb1, he⟩ := zb1_e he
  refine (zb1_s (s_Town_breath rfl hb1)).trans ?_
  refine zj1_z (m1 := zo) he (fun v_allCuts_3 he => ?_) (fun k5f k5 hk5 he => ?_)
  · obtain ⟨hn2, he⟩ := zg_e he
    obtain ⟨hn3, he⟩ := zg_e he
    obtain ⟨x4, hx4⟩ : ∃ y : Int, y = max v_longestRun v_run := ⟨_, rfl⟩
    have he := zn_e hx4 he
    refine zn_z (y := zo x4) ((zo_max rfl rfl hn2 hn3).trans (congrArg zo hx4.symm)) ?_
    obtain ⟨rfl, rfl, rfl⟩ := zi3 he
    exact zs3 rfl rfl (zo_l 0)
  obtain ⟨hn5, he⟩ := zg_e he
  by_cases c6 : v_run ≤ (0 : Int)
  · have he := zif_t c6 he
    refine zif_p ((zo_le rfl (zo_l 0) hn5 (by decide)).mpr c6) ?_
    exact zk1 hk5 rfl he
  · have he := zif_f c6 he
    refine zif_n (fun q => c6 ((zo_le rfl (zo_l 0) hn5 (by decide)).mp q)) ?_
    obtain ⟨hn7, he⟩ := zg_e he
    by_cases c8 : r1 ≤ (0 : Int)
    · have he := zif_t c8 he
      refine zif_p ((zo_le rfl (zo_l 0) hn7 (by decide)).mpr c8) ?_
      exact zk1 hk5 rfl he
    · have he := zif_f c8 he
      refine zif_n (fun q => c8 ((zo_le rfl (zo_l 0) hn7 (by decide)).mp q)) ?_
      obtain ⟨hn10, he⟩ := zg_e he
      refine zg_z (zo_ne0 rfl hn10) ?_
      obtain ⟨hn11, he⟩ := zg_e he
      obtain ⟨x9, hx12⟩ : ∃ y : Int, y = v_allCuts + ((v_run - (1 : Int)) / r1) := ⟨_, rfl⟩
      have he := zn_e hx12 he
      refine zn_z (y := zo x9) ((zo_add rfl (zo_div (zo_sub rfl (zo_l 1)) rfl hn11 hn10)).trans (congrArg zo hx12.symm)) ?_
      exact zk1 hk5 rfl he
theorem s_Stroll_end {v_allCutsf : Int32} {v_allCuts : Int} {v_allWordsf : Int32} {v_allWords : Int} {v_longestRunf : Int32} {v_longestRun : Int} {v_runf : Int32} {v_run : Int} {v_squaref : Int32} {v_square : Int} {g_spoken_allf : Nat → Int32} {g_spoken_all : Nat → Int} {v_town_breathf : Int32} {v_town_breath : Int} {g_town_kinds_allf : Nat → Int32} {g_town_kinds_all : Nat → Int} {R0 : Int} {R1 : Int} {R2 : Int} {R3 : Int} {R4 : Nat → Int} (ev_allCuts : v_allCutsf = zo v_allCuts) (ev_allWords : v_allWordsf = zo v_allWords) (ev_longestRun : v_longestRunf = zo v_longestRun) (ev_run : v_runf = zo v_run) (ev_square : v_squaref = zo v_square) (eg_spoken_all : g_spoken_allf = zoA g_spoken_all) (ev_town_breath : v_town_breathf = zo v_town_breath) (eg_town_kinds_all : g_town_kinds_allf = zoA g_town_kinds_all) (he : g_Stroll_end v_allCuts v_allWords v_longestRun v_run v_square g_spoken_all v_town_breath g_town_kinds_all = some (R0, R1, R2, R3, R4)) : f_Stroll_end v_allCutsf v_allWordsf v_longestRunf v_runf v_squaref g_spoken_allf v_town_breathf g_town_kinds_allf = some (zo R0, zo R1, zo R2, zo R3, zoA R4) := by
  subst ev_allCuts
  subst ev_allWords
  subst ev_longestRun
  subst ev_run
  subst ev_square
  subst eg_spoken_all
  subst ev_town_breath
  subst eg_town_kinds_all
  unfold g_Stroll_end at he
  unfold f_Stroll_end
  obtain ⟨v_allWords_1, v_run_2, g_spoken_all_3, hb1, he⟩ := zb3_e he
  refine (zb3_s (s_Stroll_speak rfl rfl rfl rfl rfl hb1)).trans ?_
  obtain ⟨v_allCuts_5, v_longestRun_6, v_run_7, hb2, he⟩ := zb3_e he
  refine (zb3_s (s_Stroll_endRun rfl rfl rfl rfl hb2)).trans ?_
  obtain ⟨rfl, rfl, rfl, rfl, rfl⟩ := zi5 he
  exact zs5 rfl rfl rfl rfl rfl
theorem s_Town_beside {p0f : Int32} {p0 : Int} {p1f : Int32} {p1 : Int} {R0 : Int} (ep0 : p0f = zo p0) (ep1 : p1f = zo p1) (he : g_Town_beside p0 p1 = some (R0)) : f_Town_beside p0f p1f = some (zo R0) := by
  subst ep0
  subst ep1
  unfold g_Town_beside at he
  unfold f_Town_beside
  obtain ⟨r1, hb1, he⟩ := zb1_e he
  refine (zb1_s (s_X_isSquare rfl hb1)).trans ?_
  obtain ⟨hn2, he⟩ := zg_e he
  by_cases c3 : r1 = (0 : Int)
  · have he := zif_t c3 he
    refine zif_p ((zo_eq rfl (zo_l 0) hn2 (by decide)).mpr c3) ?_
    obtain ⟨rfl⟩ := zi1 he
    exact zs1 (zo_ln 1)
  · have he := zif_f c3 he
    refine zif_n (fun q => c3 ((zo_eq rfl (zo_l 0) hn2 (by decide)).mp q)) ?_
    obtain ⟨hn4, he⟩ := zg_e he
    obtain ⟨x4, hx5⟩ : ∃ y : Int, y = p0 % (6 : Int) := ⟨_, rfl⟩
    have he := zn_e hx5 he
    refine zn_z (y := zo x4) ((zo_rem rfl (zo_l 6) hn4 (by decide)).trans (congrArg zo hx5.symm)) ?_
    obtain ⟨hn6, he⟩ := zg_e he
    by_cases c7 : p1 = (0 : Int)
    · have he := zif_t c7 he
      refine zif_p ((zo_eq rfl (zo_l 0) hn6 (by decide)).mpr c7) ?_
      by_cases c8 : p0 < (6 : Int)
      · have he := zif_t c8 he
        refine zif_p ((zo_lt rfl (zo_l 6) (zr_pos hn4) (by decide)).mpr c8) ?_
        obtain ⟨rfl⟩ := zi1 he
        exact zs1 (zo_ln 1)
      · have he := zif_f c8 he
        refine zif_n (fun q => c8 ((zo_lt rfl (zo_l 6) (zr_pos hn4) (by decide)).mp q)) ?_
        obtain ⟨rfl⟩ := zi1 he
        exact zs1 (zo_sub rfl (zo_l 6))
    · have he := zif_f c7 he
      refine zif_n (fun q => c7 ((zo_eq rfl (zo_l 0) hn6 (by decide)).mp q)) ?_
      by_cases c9 : p1 = (1 : Int)
      · have he := zif_t c9 he
        refine zif_p ((zo_eq rfl (zo_l 1) hn6 (by decide)).mpr c9) ?_
        obtain ⟨hn10, he⟩ := zg_e he
        by_cases c11 : x4 ≤ (0 : Int)
        · have he := zif_t c11 he
          refine zif_p ((zo_le rfl (zo_l 0) hn10 (by decide)).mpr c11) ?_
          obtain ⟨rfl⟩ := zi1 he
          exact zs1 (zo_ln 1)
        · have he := zif_f c11 he
          refine zif_n (fun q => c11 ((zo_le rfl (zo_l 0) hn10 (by decide)).mp q)) ?_
          obtain ⟨rfl⟩ := zi1 he
          exact zs1 (zo_sub rfl (zo_l 1))
      · have he := zif_f c9 he
        refine zif_n (fun q => c9 ((zo_eq rfl (zo_l 1) hn6 (by decide)).mp q)) ?_
        by_cases c12 : p1 = (2 : Int)
        · have he := zif_t c12 he
          refine zif_p ((zo_eq rfl (zo_l 2) hn6 (by decide)).mpr c12) ?_
          obtain ⟨hn13, he⟩ := zg_e he
          by_cases c14 : (5 : Int) ≤ x4
          · have he := zif_t c14 he
            refine zif_p ((zo_le (zo_l 5) rfl (by decide) hn13).mpr c14) ?_
            obtain ⟨rfl⟩ := zi1 he
            exact zs1 (zo_ln 1)
          · have he := zif_f c14 he
            refine zif_n (fun q => c14 ((zo_le (zo_l 5) rfl (by decide) hn13).mp q)) ?_
            obtain ⟨rfl⟩ := zi1 he
            exact zs1 (zo_add rfl (zo_l 1))
        · have he := zif_f c12 he
          refine zif_n (fun q => c12 ((zo_eq rfl (zo_l 2) hn6 (by decide)).mp q)) ?_
          by_cases c15 : p1 = (3 : Int)
          · have he := zif_t c15 he
            refine zif_p ((zo_eq rfl (zo_l 3) hn6 (by decide)).mpr c15) ?_
            by_cases c16 : (30 : Int) ≤ p0
            · have he := zif_t c16 he
              refine zif_p ((zo_le (zo_l 30) rfl (by decide) (zr_pos hn4)).mpr c16) ?_
              obtain ⟨rfl⟩ := zi1 he
              exact zs1 (zo_ln 1)
            · have he := zif_f c16 he
              refine zif_n (fun q => c16 ((zo_le (zo_l 30) rfl (by decide) (zr_pos hn4)).mp q)) ?_
              obtain ⟨rfl⟩ := zi1 he
              exact zs1 (zo_add rfl (zo_l 6))
          · have he := zif_f c15 he
            refine zif_n (fun q => c15 ((zo_eq rfl (zo_l 3) hn6 (by decide)).mp q)) ?_
            obtain ⟨rfl⟩ := zi1 he
            exact zs1 (zo_ln 1)
theorem s_Town_next {g_kinds_allf : Nat → Int32} {g_kinds_all : Nat → Int} {p1f : Int32} {p1 : Int} {p2f : Int32} {p2 : Int} {R0 : Int} (eg_kinds_all : g_kinds_allf = zoA g_kinds_all) (ep1 : p1f = zo p1) (ep2 : p2f = zo p2) (he : g_Town_next g_kinds_all p1 p2 = some (R0)) : f_Town_next g_kinds_allf p1f p2f = some (zo R0) := by
  subst eg_kinds_all
  subst ep1
  subst ep2
  unfold g_Town_next at he
  unfold f_Town_next
  obtain ⟨r1, hb1, he⟩ := zb1_e he
  refine (zb1_s (s_Town_beside rfl rfl hb1)).trans ?_
  obtain ⟨r3, hb2, he⟩ := zb1_e he
  refine (zb1_s (s_Town_canBe rfl rfl hb2)).trans ?_
  obtain ⟨hn3, he⟩ := zg_e he
  by_cases c4 : r3 = (0 : Int)
  · have he := zif_t c4 he
    refine zif_p ((zo_eq rfl (zo_l 0) hn3 (by decide)).mpr c4) ?_
    obtain ⟨rfl⟩ := zi1 he
    exact zs1 (zo_ln 1)
  · have he := zif_f c4 he
    refine zif_n (fun q => c4 ((zo_eq rfl (zo_l 0) hn3 (by decide)).mp q)) ?_
    obtain ⟨rfl⟩ := zi1 he
    exact zs1 rfl
theorem s_Town_isCorner {g_kinds_allf : Nat → Int32} {g_kinds_all : Nat → Int} {p1f : Int32} {p1 : Int} {p2f : Int32} {p2 : Int} {p3f : Int32} {p3 : Int} {R0 : Int} (eg_kinds_all : g_kinds_allf = zoA g_kinds_all) (ep1 : p1f = zo p1) (ep2 : p2f = zo p2) (ep3 : p3f = zo p3) (he : g_Town_isCorner g_kinds_all p1 p2 p3 = some (R0)) : f_Town_isCorner g_kinds_allf p1f p2f p3f = some (zo R0) := by
  subst eg_kinds_all
  subst ep1
  subst ep2
  subst ep3
  unfold g_Town_isCorner at he
  unfold f_Town_isCorner
  obtain ⟨hn1, he⟩ := zg_e he
  by_cases c2 : p2 = (4 : Int)
  · have he := zif_t c2 he
    refine zif_p ((zo_eq rfl (zo_l 4) hn1 (by decide)).mpr c2) ?_
    obtain ⟨rfl⟩ := zi1 he
    exact zs1 (zo_l 0)
  · have he := zif_f c2 he
    refine zif_n (fun q => c2 ((zo_eq rfl (zo_l 4) hn1 (by decide)).mp q)) ?_
    obtain ⟨hn3, he⟩ := zg_e he
    by_cases c4 : p2 = p3
    · have he := zif_t c4 he
      refine zif_p ((zo_eq rfl rfl hn1 hn3).mpr c4) ?_
      obtain ⟨rfl⟩ := zi1 he
      exact zs1 (zo_l 0)
    · have he := zif_f c4 he
      refine zif_n (fun q => c4 ((zo_eq rfl rfl hn1 hn3).mp q)) ?_
      obtain ⟨r3, hb5, he⟩ := zb1_e he
      refine (zb1_s (s_Town_turnsAreCorners rfl rfl hb5)).trans ?_
      obtain ⟨hn6, he⟩ := zg_e he
      by_cases c7 : r3 = (0 : Int)
      · have he := zif_t c7 he
        refine zif_p ((zo_eq rfl (zo_l 0) hn6 (by decide)).mpr c7) ?_
        obtain ⟨rfl⟩ := zi1 he
        exact zs1 (zo_l 0)
      · have he := zif_f c7 he
        refine zif_n (fun q => c7 ((zo_eq rfl (zo_l 0) hn6 (by decide)).mp q)) ?_
        obtain ⟨rfl⟩ := zi1 he
        exact zs1 (zo_l 1)
theorem s_Stroll_go {v_allCornersf : Int32} {v_allCorners : Int} {v_allCutsf : Int32} {v_allCuts : Int} {v_allWordsf : Int32} {v_allWords : Int} {v_camef : Int32} {v_came : Int} {v_longestRunf : Int32} {v_longestRun : Int} {v_runf : Int32} {v_run : Int} {v_squaref : Int32} {v_square : Int} {g_spoken_allf : Nat → Int32} {g_spoken_all : Nat → Int} {v_town_breathf : Int32} {v_town_breath : Int} {g_town_kinds_allf : Nat → Int32} {g_town_kinds_all : Nat → Int} {p1f : Int32} {p1 : Int} {R0 : Int} {R1 : Int} {R2 : Int} {R3 : Int} {R4 : Int} {R5 : Int} {R6 : Int} {R7 : Int} {R8 : Nat → Int} (ev_allCorners : v_allCornersf = zo v_allCorners) (ev_allCuts : v_allCutsf = zo v_allCuts) (ev_allWords : v_allWordsf = zo v_allWords) (ev_came : v_camef = zo v_came) (ev_longestRun : v_longestRunf = zo v_longestRun) (ev_run : v_runf = zo v_run) (ev_square : v_squaref = zo v_square) (eg_spoken_all : g_spoken_allf = zoA g_spoken_all) (ev_town_breath : v_town_breathf = zo v_town_breath) (eg_town_kinds_all : g_town_kinds_allf = zoA g_town_kinds_all) (ep1 : p1f = zo p1) (he : g_Stroll_go v_allCorners v_allCuts v_allWords v_came v_longestRun v_run v_square g_spoken_all v_town_breath g_town_kinds_all p1 = some (R0, R1, R2, R3, R4, R5, R6, R7, R8)) : f_Stroll_go v_allCornersf v_allCutsf v_allWordsf v_camef v_longestRunf v_runf v_squaref g_spoken_allf v_town_breathf g_town_kinds_allf p1f = some (zo R0, zo R1, zo R2, zo R3, zo R4, zo R5, zo R6, zo R7, zoA R8) := by
  subst ev_allCorners
  subst ev_allCuts
  subst ev_allWords
  subst ev_came
  subst ev_longestRun
  subst ev_run
  subst ev_square
  subst eg_spoken_all
  subst ev_town_breath
  subst eg_town_kinds_all
  subst ep1
  unfold g_Stroll_go at he
  unfold f_Stroll_go
  obtain ⟨r1, hb1, he⟩ := zb1_e he
  refine (zb1_s (s_Town_next rfl rfl rfl hb1)).trans ?_
  obtain ⟨hn2, he⟩ := zg_e he
  by_cases c3 : r1 = (-1 : Int)
  · have he := zif_t c3 he
    refine zif_p ((zo_eq rfl (zo_ln 1) hn2 (by decide)).mpr c3) ?_
    obtain ⟨rfl, rfl, rfl, rfl, rfl, rfl, rfl, rfl, rfl⟩ := zi9 he
    exact zs9 (zo_l 0) rfl rfl rfl rfl rfl rfl rfl rfl
  · have he := zif_f c3 he
    refine zif_n (fun q => c3 ((zo_eq rfl (zo_ln 1) hn2 (by decide)).mp q)) ?_
    obtain ⟨r4, hb4, he⟩ := zb1_e he
    refine (zb1_s (s_Town_isCorner rfl rfl rfl rfl hb4)).trans ?_
    refine zj6_z (m1 := zo) (m2 := zo) (m3 := zo) (m4 := zo) (m5 := zo) (m6 := zoA) he (fun v_allCorners_6 v_allCuts_7 v_allWords_8 v_longestRun_9 v_run_10 g_spoken_all_11 he => ?_) (fun k12f k12 hk12 he => ?_)
    · obtain ⟨rfl, rfl, rfl, rfl, rfl, rfl, rfl, rfl, rfl⟩ := zi9 he
      exact zs9 (zo_l 1) rfl rfl rfl rfl rfl rfl rfl rfl
    obtain ⟨hn5, he⟩ := zg_e he
    by_cases c6 : r4 = (0 : Int)
    · have he := zif_t c6 he
      refine zif_p ((zo_eq rfl (zo_l 0) hn5 (by decide)).mpr c6) ?_
      obtain ⟨v_allWords_14, v_run_15, g_spoken_all_16, hb7, he⟩ := zb3_e he
      refine (zb3_s (s_Stroll_speak rfl rfl rfl rfl rfl hb7)).trans ?_
      exact zk6 hk12 rfl rfl rfl rfl rfl rfl he
    · have he := zif_f c6 he
      refine zif_n (fun q => c6 ((zo_eq rfl (zo_l 0) hn5 (by decide)).mp q)) ?_
      obtain ⟨x18, hx8⟩ : ∃ y : Int, y = v_allCorners + (1 : Int) := ⟨_, rfl⟩
      have he := zn_e hx8 he
      refine zn_z (y := zo x18) ((zo_add rfl (zo_l 1)).trans (congrArg zo hx8.symm)) ?_
      obtain ⟨x19, hx9⟩ : ∃ y : Int, y = v_allCuts + (1 : Int) := ⟨_, rfl⟩
      have he := zn_e hx9 he
      refine zn_z (y := zo x19) ((zo_add rfl (zo_l 1)).trans (congrArg zo hx9.symm)) ?_
      obtain ⟨v_allCuts_20, v_longestRun_21, v_run_22, hb10, he⟩ := zb3_e he
      refine (zb3_s (s_Stroll_endRun rfl rfl rfl rfl hb10)).trans ?_
      exact zk6 hk12 rfl rfl rfl rfl rfl rfl he
theorem s_X_goTheRow {v_toldCountf : Int32} {v_toldCount : Int} {v_stroll_allCornersf : Int32} {v_stroll_allCorners : Int} {v_stroll_allCutsf : Int32} {v_stroll_allCuts : Int} {v_stroll_allWordsf : Int32} {v_stroll_allWords : Int} {v_stroll_camef : Int32} {v_stroll_came : Int} {v_stroll_longestRunf : Int32} {v_stroll_longestRun : Int} {v_stroll_runf : Int32} {v_stroll_run : Int} {v_stroll_squaref : Int32} {v_stroll_square : Int} {g_stroll_spoken_allf : Nat → Int32} {g_stroll_spoken_all : Nat → Int} {g_told_allf : Nat → Int32} {g_told_all : Nat → Int} {v_town_breathf : Int32} {v_town_breath : Int} {v_town_homef : Int32} {v_town_home : Int} {g_town_kinds_allf : Nat → Int32} {g_town_kinds_all : Nat → Int} {R0 : Int} {R1 : Int} {R2 : Int} {R3 : Int} {R4 : Int} {R5 : Int} {R6 : Int} {R7 : Int} {R8 : Nat → Int} (ev_toldCount : v_toldCountf = zo v_toldCount) (ev_stroll_allCorners : v_stroll_allCornersf = zo v_stroll_allCorners) (ev_stroll_allCuts : v_stroll_allCutsf = zo v_stroll_allCuts) (ev_stroll_allWords : v_stroll_allWordsf = zo v_stroll_allWords) (ev_stroll_came : v_stroll_camef = zo v_stroll_came) (ev_stroll_longestRun : v_stroll_longestRunf = zo v_stroll_longestRun) (ev_stroll_run : v_stroll_runf = zo v_stroll_run) (ev_stroll_square : v_stroll_squaref = zo v_stroll_square) (eg_stroll_spoken_all : g_stroll_spoken_allf = zoA g_stroll_spoken_all) (eg_told_all : g_told_allf = zoA g_told_all) (ev_town_breath : v_town_breathf = zo v_town_breath) (ev_town_home : v_town_homef = zo v_town_home) (eg_town_kinds_all : g_town_kinds_allf = zoA g_town_kinds_all) (he : g_X_goTheRow v_toldCount v_stroll_allCorners v_stroll_allCuts v_stroll_allWords v_stroll_came v_stroll_longestRun v_stroll_run v_stroll_square g_stroll_spoken_all g_told_all v_town_breath v_town_home g_town_kinds_all = some (R0, R1, R2, R3, R4, R5, R6, R7, R8)) : f_X_goTheRow v_toldCountf v_stroll_allCornersf v_stroll_allCutsf v_stroll_allWordsf v_stroll_camef v_stroll_longestRunf v_stroll_runf v_stroll_squaref g_stroll_spoken_allf g_told_allf v_town_breathf v_town_homef g_town_kinds_allf = some (zo R0, zo R1, zo R2, zo R3, zo R4, zo R5, zo R6, zo R7, zoA R8) := by
  subst ev_toldCount
  subst ev_stroll_allCorners
  subst ev_stroll_allCuts
  subst ev_stroll_allWords
  subst ev_stroll_came
  subst ev_stroll_longestRun
  subst ev_stroll_run
  subst ev_stroll_square
  subst eg_stroll_spoken_all
  subst eg_told_all
  subst ev_town_breath
  subst ev_town_home
  subst eg_town_kinds_all
  unfold g_X_goTheRow at he
  unfold f_X_goTheRow
  obtain ⟨v_stroll_allCorners_1, v_stroll_allCuts_2, v_stroll_allWords_3, v_stroll_came_4, v_stroll_longestRun_5, v_stroll_run_6, v_stroll_square_7, g_stroll_spoken_all_8, hb1, he⟩ := zb8_e he
  refine (zb8_s (s_Stroll_begin rfl rfl rfl rfl rfl rfl rfl rfl rfl hb1)).trans ?_
  refine zj9_z (m1 := zo) (m2 := zo) (m3 := zo) (m4 := zo) (m5 := zo) (m6 := zo) (m7 := zo) (m8 := zo) (m9 := zoA) he (fun l1_10 v_stroll_allCorners_11 v_stroll_allCuts_12 v_stroll_allWords_13 v_stroll_came_14 v_stroll_longestRun_15 v_stroll_run_16 v_stroll_square_17 g_stroll_spoken_all_18 he => ?_) (fun k25f k25 hk25 he => ?_)
  · obtain ⟨v_stroll_allCuts_19, v_stroll_allWords_20, v_stroll_longestRun_21, v_stroll_run_22, g_stroll_spoken_all_23, hb2, he⟩ := zb5_e he
    refine (zb5_s (s_Stroll_end rfl rfl rfl rfl rfl rfl rfl rfl hb2)).trans ?_
    obtain ⟨rfl, rfl, rfl, rfl, rfl, rfl, rfl, rfl, rfl⟩ := zi9 he
    exact zs9 rfl rfl rfl rfl rfl rfl rfl rfl rfl
  refine zl10_z (m1 := zo) (m2 := zo) (m3 := zo) (m4 := zo) (m5 := zo) (m6 := zo) (m7 := zo) (m8 := zo) (m9 := zo) (m10 := zoA) (zo_ln 9) (zo_l 0) rfl rfl rfl rfl rfl rfl rfl rfl he (fun l1_26 l2_27 v_stroll_allCorners_28 v_stroll_allCuts_29 v_stroll_allWords_30 v_stroll_came_31 v_stroll_longestRun_32 v_stroll_run_33 v_stroll_square_34 g_stroll_spoken_all_35 again36f again36 hagain36 he => ?_)
  obtain ⟨hn3, he⟩ := zg_e he
  obtain ⟨hn4, he⟩ := zg_e he
  by_cases c5 : v_toldCount ≤ l2_27
  · have he := zif_t c5 he
    refine zif_p ((zo_le rfl rfl hn3 hn4).mpr c5) ?_
    exact zk9 hk25 rfl rfl rfl rfl rfl rfl rfl rfl rfl he
  · have he := zif_f c5 he
    refine zif_n (fun q => c5 ((zo_le rfl rfl hn3 hn4).mp q)) ?_
    obtain ⟨hn6, he⟩ := zg_e he
    by_cases c7 : l1_26 = (-9 : Int)
    · have he := zif_t c7 he
      refine zif_p ((zo_eq rfl (zo_ln 9) hn6 (by decide)).mpr c7) ?_
      obtain ⟨r39, hb8, he⟩ := zb1_e he
      refine (zb1_s (s_Numbers_at rfl rfl hb8)).trans ?_
      obtain ⟨r41, v_stroll_allCorners_42, v_stroll_allCuts_43, v_stroll_allWords_44, v_stroll_came_45, v_stroll_longestRun_46, v_stroll_run_47, v_stroll_square_48, g_stroll_spoken_all_49, hb9, he⟩ := zb9_e he
      refine (zb9_s (s_Stroll_go rfl rfl rfl rfl rfl rfl rfl rfl rfl rfl rfl hb9)).trans ?_
      refine zj1_z (m1 := zo) he (fun l1_51 he => ?_) (fun k53f k53 hk53 he => ?_)
      · obtain ⟨x52, hx10⟩ : ∃ y : Int, y = l2_27 + (1 : Int) := ⟨_, rfl⟩
        have he := zn_e hx10 he
        refine zn_z (y := zo x52) ((zo_add rfl (zo_l 1)).trans (congrArg zo hx10.symm)) ?_
        exact zk10 hagain36 rfl rfl rfl rfl rfl rfl rfl rfl rfl rfl he
      obtain ⟨hn11, he⟩ := zg_e he
      by_cases c12 : r41 = (0 : Int)
      · have he := zif_t c12 he
        refine zif_p ((zo_eq rfl (zo_l 0) hn11 (by decide)).mpr c12) ?_
        exact zk1 hk53 rfl he
      · have he := zif_f c12 he
        refine zif_n (fun q => c12 ((zo_eq rfl (zo_l 0) hn11 (by decide)).mp q)) ?_
        exact zk1 hk53 rfl he
    · have he := zif_f c7 he
      refine zif_n (fun q => c7 ((zo_eq rfl (zo_ln 9) hn6 (by decide)).mp q)) ?_
      exact zk9 hk25 rfl rfl rfl rfl rfl rfl rfl rfl rfl he
theorem s_Town_fineOn {v_finef : Int32} {v_fine : Int} {g_kinds_allf : Nat → Int32} {g_kinds_all : Nat → Int} {p1f : Int32} {p1 : Int} {R0 : Int} (ev_fine : v_finef = zo v_fine) (eg_kinds_all : g_kinds_allf = zoA g_kinds_all) (ep1 : p1f = zo p1) (he : g_Town_fineOn v_fine g_kinds_all p1 = some (R0)) : f_Town_fineOn v_finef g_kinds_allf p1f = some (zo R0) := by
  subst ev_fine
  subst eg_kinds_all
  subst ep1
  unfold g_Town_fineOn at he
  unfold f_Town_fineOn
  obtain ⟨r1, hb1, he⟩ := zb1_e he
  refine (zb1_s (s_Town_wordsOn rfl rfl hb1)).trans ?_
  obtain ⟨hn2, he⟩ := zg_e he
  by_cases c3 : r1 = (0 : Int)
  · have he := zif_t c3 he
    refine zif_p ((zo_eq rfl (zo_l 0) hn2 (by decide)).mpr c3) ?_
    obtain ⟨rfl⟩ := zi1 he
    exact zs1 (zo_l 0)
  · have he := zif_f c3 he
    refine zif_n (fun q => c3 ((zo_eq rfl (zo_l 0) hn2 (by decide)).mp q)) ?_
    obtain ⟨hn4, he⟩ := zg_e he
    by_cases c5 : v_fine = (0 : Int)
    · have he := zif_t c5 he
      refine zif_p ((zo_eq rfl (zo_l 0) hn4 (by decide)).mpr c5) ?_
      obtain ⟨rfl⟩ := zi1 he
      exact zs1 (zo_l 0)
    · have he := zif_f c5 he
      refine zif_n (fun q => c5 ((zo_eq rfl (zo_l 0) hn4 (by decide)).mp q)) ?_
      obtain ⟨r5, hb6, he⟩ := zb1_e he
      refine (zb1_s (s_Town_heardBy rfl rfl hb6)).trans ?_
      obtain ⟨rfl⟩ := zi1 he
      exact zs1 (zo_mul (zo_mul rfl rfl) rfl)
theorem s_Stroll_allFines {g_spoken_allf : Nat → Int32} {g_spoken_all : Nat → Int} {v_town_finef : Int32} {v_town_fine : Int} {g_town_kinds_allf : Nat → Int32} {g_town_kinds_all : Nat → Int} {R0 : Int} (eg_spoken_all : g_spoken_allf = zoA g_spoken_all) (ev_town_fine : v_town_finef = zo v_town_fine) (eg_town_kinds_all : g_town_kinds_allf = zoA g_town_kinds_all) (he : g_Stroll_allFines g_spoken_all v_town_fine g_town_kinds_all = some (R0)) : f_Stroll_allFines g_spoken_allf v_town_finef g_town_kinds_allf = some (zo R0) := by
  subst eg_spoken_all
  subst ev_town_fine
  subst eg_town_kinds_all
  unfold g_Stroll_allFines at he
  unfold f_Stroll_allFines
  refine zl2_z (m1 := zo) (m2 := zo) (zo_l 0) (zo_l 0) he (fun l1_1 l2_2 again3f again3 hagain3 he => ?_)
  obtain ⟨hn1, he⟩ := zg_e he
  by_cases c2 : (36 : Int) ≤ l2_2
  · have he := zif_t c2 he
    refine zif_p ((zo_le (zo_l 36) rfl (by decide) hn1).mpr c2) ?_
    obtain ⟨rfl⟩ := zi1 he
    exact zs1 rfl
  · have he := zif_f c2 he
    refine zif_n (fun q => c2 ((zo_le (zo_l 36) rfl (by decide) hn1).mp q)) ?_
    obtain ⟨r5, hb3, he⟩ := zb1_e he
    refine (zb1_s (s_Numbers_at rfl rfl hb3)).trans ?_
    obtain ⟨r7, hb4, he⟩ := zb1_e he
    refine (zb1_s (s_Town_fineOn rfl rfl rfl hb4)).trans ?_
    obtain ⟨x9, hx5⟩ : ∃ y : Int, y = l1_1 + (r5 * r7) := ⟨_, rfl⟩
    have he := zn_e hx5 he
    refine zn_z (y := zo x9) ((zo_add rfl (zo_mul rfl rfl)).trans (congrArg zo hx5.symm)) ?_
    obtain ⟨x10, hx6⟩ : ∃ y : Int, y = l2_2 + (1 : Int) := ⟨_, rfl⟩
    have he := zn_e hx6 he
    refine zn_z (y := zo x10) ((zo_add rfl (zo_l 1)).trans (congrArg zo hx6.symm)) ?_
    exact zk2 hagain3 rfl rfl he
theorem s_Stroll_answer {v_allCornersf : Int32} {v_allCorners : Int} {v_allCutsf : Int32} {v_allCuts : Int} {v_allWordsf : Int32} {v_allWords : Int} {v_longestRunf : Int32} {v_longestRun : Int} {v_squaref : Int32} {v_square : Int} {g_spoken_allf : Nat → Int32} {g_spoken_all : Nat → Int} {v_town_finef : Int32} {v_town_fine : Int} {g_town_kinds_allf : Nat → Int32} {g_town_kinds_all : Nat → Int} {p1f : Int32} {p1 : Int} {R0 : Int} (ev_allCorners : v_allCornersf = zo v_allCorners) (ev_allCuts : v_allCutsf = zo v_allCuts) (ev_allWords : v_allWordsf = zo v_allWords) (ev_longestRun : v_longestRunf = zo v_longestRun) (ev_square : v_squaref = zo v_square) (eg_spoken_all : g_spoken_allf = zoA g_spoken_all) (ev_town_fine : v_town_finef = zo v_town_fine) (eg_town_kinds_all : g_town_kinds_allf = zoA g_town_kinds_all) (ep1 : p1f = zo p1) (he : g_Stroll_answer v_allCorners v_allCuts v_allWords v_longestRun v_square g_spoken_all v_town_fine g_town_kinds_all p1 = some (R0)) : f_Stroll_answer v_allCornersf v_allCutsf v_allWordsf v_longestRunf v_squaref g_spoken_allf v_town_finef g_town_kinds_allf p1f = some (zo R0) := by
  subst ev_allCorners
  subst ev_allCuts
  subst ev_allWords
  subst ev_longestRun
  subst ev_square
  subst eg_spoken_all
  subst ev_town_fine
  subst eg_town_kinds_all
  subst ep1
  unfold g_Stroll_answer at he
  unfold f_Stroll_answer
  obtain ⟨hn1, he⟩ := zg_e he
  by_cases c2 : p1 = (1 : Int)
  · have he := zif_t c2 he
    refine zif_p ((zo_eq rfl (zo_l 1) hn1 (by decide)).mpr c2) ?_
    obtain ⟨rfl⟩ := zi1 he
    exact zs1 rfl
  · have he := zif_f c2 he
    refine zif_n (fun q => c2 ((zo_eq rfl (zo_l 1) hn1 (by decide)).mp q)) ?_
    by_cases c3 : p1 = (2 : Int)
    · have he := zif_t c3 he
      refine zif_p ((zo_eq rfl (zo_l 2) hn1 (by decide)).mpr c3) ?_
      obtain ⟨rfl⟩ := zi1 he
      exact zs1 rfl
    · have he := zif_f c3 he
      refine zif_n (fun q => c3 ((zo_eq rfl (zo_l 2) hn1 (by decide)).mp q)) ?_
      by_cases c4 : p1 = (3 : Int)
      · have he := zif_t c4 he
        refine zif_p ((zo_eq rfl (zo_l 3) hn1 (by decide)).mpr c4) ?_
        obtain ⟨rfl⟩ := zi1 he
        exact zs1 rfl
      · have he := zif_f c4 he
        refine zif_n (fun q => c4 ((zo_eq rfl (zo_l 3) hn1 (by decide)).mp q)) ?_
        by_cases c5 : p1 = (4 : Int)
        · have he := zif_t c5 he
          refine zif_p ((zo_eq rfl (zo_l 4) hn1 (by decide)).mpr c5) ?_
          obtain ⟨rfl⟩ := zi1 he
          exact zs1 rfl
        · have he := zif_f c5 he
          refine zif_n (fun q => c5 ((zo_eq rfl (zo_l 4) hn1 (by decide)).mp q)) ?_
          by_cases c6 : p1 = (5 : Int)
          · have he := zif_t c6 he
            refine zif_p ((zo_eq rfl (zo_l 5) hn1 (by decide)).mpr c6) ?_
            obtain ⟨r6, hb7, he⟩ := zb1_e he
            refine (zb1_s (s_Stroll_allFines rfl rfl rfl hb7)).trans ?_
            obtain ⟨rfl⟩ := zi1 he
            exact zs1 rfl
          · have he := zif_f c6 he
            refine zif_n (fun q => c6 ((zo_eq rfl (zo_l 5) hn1 (by decide)).mp q)) ?_
            by_cases c8 : p1 = (6 : Int)
            · have he := zif_t c8 he
              refine zif_p ((zo_eq rfl (zo_l 6) hn1 (by decide)).mpr c8) ?_
              obtain ⟨rfl⟩ := zi1 he
              exact zs1 rfl
            · have he := zif_f c8 he
              refine zif_n (fun q => c8 ((zo_eq rfl (zo_l 6) hn1 (by decide)).mp q)) ?_
              obtain ⟨rfl⟩ := zi1 he
              exact zs1 (zo_ln 9)
theorem s_X_walk {v_toldCountf : Int32} {v_toldCount : Int} {g_refused_allf : Nat → Int32} {g_refused_all : Nat → Int} {v_stroll_allCornersf : Int32} {v_stroll_allCorners : Int} {v_stroll_allCutsf : Int32} {v_stroll_allCuts : Int} {v_stroll_allWordsf : Int32} {v_stroll_allWords : Int} {v_stroll_camef : Int32} {v_stroll_came : Int} {v_stroll_longestRunf : Int32} {v_stroll_longestRun : Int} {v_stroll_runf : Int32} {v_stroll_run : Int} {v_stroll_squaref : Int32} {v_stroll_square : Int} {g_stroll_spoken_allf : Nat → Int32} {g_stroll_spoken_all : Nat → Int} {g_told_allf : Nat → Int32} {g_told_all : Nat → Int} {v_town_breathf : Int32} {v_town_breath : Int} {v_town_finef : Int32} {v_town_fine : Int} {v_town_homef : Int32} {v_town_home : Int} {g_town_kinds_allf : Nat → Int32} {g_town_kinds_all : Nat → Int} {p1f : Int32} {p1 : Int} {R0 : Int} {R1 : Nat → Int} {R2 : Int} {R3 : Int} {R4 : Int} {R5 : Int} {R6 : Int} {R7 : Int} {R8 : Int} {R9 : Nat → Int} (ev_toldCount : v_toldCountf = zo v_toldCount) (eg_refused_all : g_refused_allf = zoA g_refused_all) (ev_stroll_allCorners : v_stroll_allCornersf = zo v_stroll_allCorners) (ev_stroll_allCuts : v_stroll_allCutsf = zo v_stroll_allCuts) (ev_stroll_allWords : v_stroll_allWordsf = zo v_stroll_allWords) (ev_stroll_came : v_stroll_camef = zo v_stroll_came) (ev_stroll_longestRun : v_stroll_longestRunf = zo v_stroll_longestRun) (ev_stroll_run : v_stroll_runf = zo v_stroll_run) (ev_stroll_square : v_stroll_squaref = zo v_stroll_square) (eg_stroll_spoken_all : g_stroll_spoken_allf = zoA g_stroll_spoken_all) (eg_told_all : g_told_allf = zoA g_told_all) (ev_town_breath : v_town_breathf = zo v_town_breath) (ev_town_fine : v_town_finef = zo v_town_fine) (ev_town_home : v_town_homef = zo v_town_home) (eg_town_kinds_all : g_town_kinds_allf = zoA g_town_kinds_all) (ep1 : p1f = zo p1) (he : g_X_walk v_toldCount g_refused_all v_stroll_allCorners v_stroll_allCuts v_stroll_allWords v_stroll_came v_stroll_longestRun v_stroll_run v_stroll_square g_stroll_spoken_all g_told_all v_town_breath v_town_fine v_town_home g_town_kinds_all p1 = some (R0, R1, R2, R3, R4, R5, R6, R7, R8, R9)) : f_X_walk v_toldCountf g_refused_allf v_stroll_allCornersf v_stroll_allCutsf v_stroll_allWordsf v_stroll_camef v_stroll_longestRunf v_stroll_runf v_stroll_squaref g_stroll_spoken_allf g_told_allf v_town_breathf v_town_finef v_town_homef g_town_kinds_allf p1f = some (zo R0, zoA R1, zo R2, zo R3, zo R4, zo R5, zo R6, zo R7, zo R8, zoA R9) := by
  subst ev_toldCount
  subst eg_refused_all
  subst ev_stroll_allCorners
  subst ev_stroll_allCuts
  subst ev_stroll_allWords
  subst ev_stroll_came
  subst ev_stroll_longestRun
  subst ev_stroll_run
  subst ev_stroll_square
  subst eg_stroll_spoken_all
  subst eg_told_all
  subst ev_town_breath
  subst ev_town_fine
  subst ev_town_home
  subst eg_town_kinds_all
  subst ep1
  unfold g_X_walk at he
  unfold f_X_walk
  refine zj1_z (m1 := id) he (fun _ he => ?_) (fun k4f k4 hk4 he => ?_)
  · obtain ⟨r1, g_refused_all_2, hb1, he⟩ := zb2_e he
    refine (zb2_s (s_X_refuse rfl (zo_ln 2) hb1)).trans ?_
    obtain ⟨rfl, rfl, rfl, rfl, rfl, rfl, rfl, rfl, rfl, rfl⟩ := zi10 he
    exact zs10 rfl rfl rfl rfl rfl rfl rfl rfl rfl rfl
  obtain ⟨hn2, he⟩ := zg_e he
  by_cases c3 : p1 < (0 : Int)
  · have he := zif_t c3 he
    refine zif_p ((zo_lt rfl (zo_l 0) hn2 (by decide)).mpr c3) ?_
    exact zk1 hk4 rfl he
  · have he := zif_f c3 he
    refine zif_n (fun q => c3 ((zo_lt rfl (zo_l 0) hn2 (by decide)).mp q)) ?_
    by_cases c4 : p1 ≤ (6 : Int)
    · have he := zif_t c4 he
      refine zif_p ((zo_le rfl (zo_l 6) hn2 (by decide)).mpr c4) ?_
      obtain ⟨r7, hb5, he⟩ := zb1_e he
      refine (zb1_s (s_X_isRowOfWays rfl rfl hb5)).trans ?_
      obtain ⟨hn6, he⟩ := zg_e he
      by_cases c7 : r7 = (0 : Int)
      · have he := zif_t c7 he
        refine zif_p ((zo_eq rfl (zo_l 0) hn6 (by decide)).mpr c7) ?_
        obtain ⟨r23, g_refused_all_24, hb8, he⟩ := zb2_e he
        refine (zb2_s (s_X_refuse rfl (zo_ln 3) hb8)).trans ?_
        obtain ⟨rfl, rfl, rfl, rfl, rfl, rfl, rfl, rfl, rfl, rfl⟩ := zi10 he
        exact zs10 rfl rfl rfl rfl rfl rfl rfl rfl rfl rfl
      · have he := zif_f c7 he
        refine zif_n (fun q => c7 ((zo_eq rfl (zo_l 0) hn6 (by decide)).mp q)) ?_
        obtain ⟨r10, v_stroll_allCorners_11, v_stroll_allCuts_12, v_stroll_allWords_13, v_stroll_came_14, v_stroll_longestRun_15, v_stroll_run_16, v_stroll_square_17, g_stroll_spoken_all_18, hb9, he⟩ := zb9_e he
        refine (zb9_s (s_X_goTheRow rfl rfl rfl rfl rfl rfl rfl rfl rfl rfl rfl rfl rfl hb9)).trans ?_
        by_cases c10 : p1 = (0 : Int)
        · have he := zif_t c10 he
          refine zif_p ((zo_eq rfl (zo_l 0) hn2 (by decide)).mpr c10) ?_
          obtain ⟨rfl, rfl, rfl, rfl, rfl, rfl, rfl, rfl, rfl, rfl⟩ := zi10 he
          exact zs10 rfl rfl rfl rfl rfl rfl rfl rfl rfl rfl
        · have he := zif_f c10 he
          refine zif_n (fun q => c10 ((zo_eq rfl (zo_l 0) hn2 (by decide)).mp q)) ?_
          obtain ⟨r21, hb11, he⟩ := zb1_e he
          refine (zb1_s (s_Stroll_answer rfl rfl rfl rfl rfl rfl rfl rfl rfl hb11)).trans ?_
          obtain ⟨rfl, rfl, rfl, rfl, rfl, rfl, rfl, rfl, rfl, rfl⟩ := zi10 he
          exact zs10 rfl rfl rfl rfl rfl rfl rfl rfl rfl rfl
    · have he := zif_f c4 he
      refine zif_n (fun q => c4 ((zo_le rfl (zo_l 6) hn2 (by decide)).mp q)) ?_
      exact zk1 hk4 rfl he
theorem s_Reach_begin {v_comeCountf : Int32} {v_comeCount : Int} {g_far_allf : Nat → Int32} {g_far_all : Nat → Int} {R0 : Int} {R1 : Nat → Int} (ev_comeCount : v_comeCountf = zo v_comeCount) (eg_far_all : g_far_allf = zoA g_far_all) (he : g_Reach_begin v_comeCount g_far_all = some (R0, R1)) : f_Reach_begin v_comeCountf g_far_allf = some (zo R0, zoA R1) := by
  subst ev_comeCount
  subst eg_far_all
  unfold g_Reach_begin at he
  unfold f_Reach_begin
  obtain ⟨g_far_all_1, hb1, he⟩ := zb1_e he
  refine (zb1_s (s_Numbers_fill rfl (zo_ln 9) hb1)).trans ?_
  obtain ⟨rfl, rfl⟩ := zi2 he
  exact zs2 (zo_l 0) rfl
theorem s_Reach_reachAt {v_comeCountf : Int32} {v_comeCount : Int} {g_come_allf : Nat → Int32} {g_come_all : Nat → Int} {g_far_allf : Nat → Int32} {g_far_all : Nat → Int} {p1f : Int32} {p1 : Int} {p2f : Int32} {p2 : Int} {R0 : Int} {R1 : Nat → Int} {R2 : Nat → Int} (ev_comeCount : v_comeCountf = zo v_comeCount) (eg_come_all : g_come_allf = zoA g_come_all) (eg_far_all : g_far_allf = zoA g_far_all) (ep1 : p1f = zo p1) (ep2 : p2f = zo p2) (he : g_Reach_reachAt v_comeCount g_come_all g_far_all p1 p2 = some (R0, R1, R2)) : f_Reach_reachAt v_comeCountf g_come_allf g_far_allf p1f p2f = some (zo R0, zoA R1, zoA R2) := by
  subst ev_comeCount
  subst eg_come_all
  subst eg_far_all
  subst ep1
  subst ep2
  unfold g_Reach_reachAt at he
  unfold f_Reach_reachAt
  obtain ⟨r1, hb1, he⟩ := zb1_e he
  refine (zb1_s (s_Numbers_at rfl rfl hb1)).trans ?_
  obtain ⟨hn2, he⟩ := zg_e he
  by_cases c3 : r1 = (-9 : Int)
  · have he := zif_t c3 he
    refine zif_p ((zo_eq rfl (zo_ln 9) hn2 (by decide)).mpr c3) ?_
    obtain ⟨g_far_all_4, hb4, he⟩ := zb1_e he
    refine (zb1_s (s_Numbers_put rfl rfl rfl hb4)).trans ?_
    obtain ⟨g_come_all_6, hb5, he⟩ := zb1_e he
    refine (zb1_s (s_Numbers_put rfl rfl rfl hb5)).trans ?_
    obtain ⟨x8, hx6⟩ : ∃ y : Int, y = v_comeCount + (1 : Int) := ⟨_, rfl⟩
    have he := zn_e hx6 he
    refine zn_z (y := zo x8) ((zo_add rfl (zo_l 1)).trans (congrArg zo hx6.symm)) ?_
    obtain ⟨rfl, rfl, rfl⟩ := zi3 he
    exact zs3 rfl rfl rfl
  · have he := zif_f c3 he
    refine zif_n (fun q => c3 ((zo_eq rfl (zo_ln 9) hn2 (by decide)).mp q)) ?_
    obtain ⟨rfl, rfl, rfl⟩ := zi3 he
    exact zs3 rfl rfl rfl
theorem s_Reach_setOut {v_comeCountf : Int32} {v_comeCount : Int} {g_come_allf : Nat → Int32} {g_come_all : Nat → Int} {g_far_allf : Nat → Int32} {g_far_all : Nat → Int} {g_town_kinds_allf : Nat → Int32} {g_town_kinds_all : Nat → Int} {p1f : Int32} {p1 : Int} {R0 : Int} {R1 : Nat → Int} {R2 : Nat → Int} (ev_comeCount : v_comeCountf = zo v_comeCount) (eg_come_all : g_come_allf = zoA g_come_all) (eg_far_all : g_far_allf = zoA g_far_all) (eg_town_kinds_all : g_town_kinds_allf = zoA g_town_kinds_all) (ep1 : p1f = zo p1) (he : g_Reach_setOut v_comeCount g_come_all g_far_all g_town_kinds_all p1 = some (R0, R1, R2)) : f_Reach_setOut v_comeCountf g_come_allf g_far_allf g_town_kinds_allf p1f = some (zo R0, zoA R1, zoA R2) := by
  subst ev_comeCount
  subst eg_come_all
  subst eg_far_all
  subst eg_town_kinds_all
  subst ep1
  unfold g_Reach_setOut at he
  unfold f_Reach_setOut
  obtain ⟨r1, hb1, he⟩ := zb1_e he
  refine (zb1_s (s_Town_canBe rfl rfl hb1)).trans ?_
  obtain ⟨hn2, he⟩ := zg_e he
  by_cases c3 : r1 = (0 : Int)
  · have he := zif_t c3 he
    refine zif_p ((zo_eq rfl (zo_l 0) hn2 (by decide)).mpr c3) ?_
    obtain ⟨rfl, rfl, rfl⟩ := zi3 he
    exact zs3 rfl rfl rfl
  · have he := zif_f c3 he
    refine zif_n (fun q => c3 ((zo_eq rfl (zo_l 0) hn2 (by decide)).mp q)) ?_
    obtain ⟨v_comeCount_4, g_come_all_5, g_far_all_6, hb4, he⟩ := zb3_e he
    refine (zb3_s (s_Reach_reachAt rfl rfl rfl rfl (zo_l 0) hb4)).trans ?_
    obtain ⟨rfl, rfl, rfl⟩ := zi3 he
    exact zs3 rfl rfl rfl
theorem s_Reach_spread {v_comeCountf : Int32} {v_comeCount : Int} {g_come_allf : Nat → Int32} {g_come_all : Nat → Int} {g_far_allf : Nat → Int32} {g_far_all : Nat → Int} {g_town_kinds_allf : Nat → Int32} {g_town_kinds_all : Nat → Int} {R0 : Int} {R1 : Nat → Int} {R2 : Nat → Int} (ev_comeCount : v_comeCountf = zo v_comeCount) (eg_come_all : g_come_allf = zoA g_come_all) (eg_far_all : g_far_allf = zoA g_far_all) (eg_town_kinds_all : g_town_kinds_allf = zoA g_town_kinds_all) (he : g_Reach_spread v_comeCount g_come_all g_far_all g_town_kinds_all = some (R0, R1, R2)) : f_Reach_spread v_comeCountf g_come_allf g_far_allf g_town_kinds_allf = some (zo R0, zoA R1, zoA R2) := by
  subst ev_comeCount
  subst eg_come_all
  subst eg_far_all
  subst eg_town_kinds_all
  unfold g_Reach_spread at he
  unfold f_Reach_spread
  refine zl4_z (m1 := zo) (m2 := zo) (m3 := zoA) (m4 := zoA) (zo_l 0) rfl rfl rfl he (fun l1_1 v_comeCount_2 g_come_all_3 g_far_all_4 again5f again5 hagain5 he => ?_)
  obtain ⟨hn1, he⟩ := zg_e he
  obtain ⟨hn2, he⟩ := zg_e he
  by_cases c3 : v_comeCount_2 ≤ l1_1
  · have he := zif_t c3 he
    refine zif_p ((zo_le rfl rfl hn1 hn2).mpr c3) ?_
    obtain ⟨rfl, rfl, rfl⟩ := zi3 he
    exact zs3 rfl rfl rfl
  · have he := zif_f c3 he
    refine zif_n (fun q => c3 ((zo_le rfl rfl hn1 hn2).mp q)) ?_
    by_cases c4 : (36 : Int) ≤ l1_1
    · have he := zif_t c4 he
      refine zif_p ((zo_le (zo_l 36) rfl (by decide) hn2).mpr c4) ?_
      obtain ⟨rfl, rfl, rfl⟩ := zi3 he
      exact zs3 rfl rfl rfl
    · have he := zif_f c4 he
      refine zif_n (fun q => c4 ((zo_le (zo_l 36) rfl (by decide) hn2).mp q)) ?_
      obtain ⟨r8, hb5, he⟩ := zb1_e he
      refine (zb1_s (s_Numbers_at rfl rfl hb5)).trans ?_
      refine zj3_z (m1 := zo) (m2 := zoA) (m3 := zoA) he (fun v_comeCount_10 g_come_all_11 g_far_all_12 he => ?_) (fun k14f k14 hk14 he => ?_)
      · obtain ⟨x13, hx6⟩ : ∃ y : Int, y = l1_1 + (1 : Int) := ⟨_, rfl⟩
        have he := zn_e hx6 he
        refine zn_z (y := zo x13) ((zo_add rfl (zo_l 1)).trans (congrArg zo hx6.symm)) ?_
        exact zk4 hagain5 rfl rfl rfl rfl he
      refine zl4_z (m1 := zo) (m2 := zo) (m3 := zoA) (m4 := zoA) (zo_l 0) rfl rfl rfl he (fun l3_15 v_comeCount_16 g_come_all_17 g_far_all_18 again19f again19 hagain19 he => ?_)
      obtain ⟨hn7, he⟩ := zg_e he
      by_cases c8 : (4 : Int) ≤ l3_15
      · have he := zif_t c8 he
        refine zif_p ((zo_le (zo_l 4) rfl (by decide) hn7).mpr c8) ?_
        exact zk3 hk14 rfl rfl rfl he
      · have he := zif_f c8 he
        refine zif_n (fun q => c8 ((zo_le (zo_l 4) rfl (by decide) hn7).mp q)) ?_
        obtain ⟨r21, hb9, he⟩ := zb1_e he
        refine (zb1_s (s_Town_next rfl rfl rfl hb9)).trans ?_
        refine zj3_z (m1 := zo) (m2 := zoA) (m3 := zoA) he (fun v_comeCount_23 g_come_all_24 g_far_all_25 he => ?_) (fun k27f k27 hk27 he => ?_)
        · obtain ⟨x26, hx10⟩ : ∃ y : Int, y = l3_15 + (1 : Int) := ⟨_, rfl⟩
          have he := zn_e hx10 he
          refine zn_z (y := zo x26) ((zo_add rfl (zo_l 1)).trans (congrArg zo hx10.symm)) ?_
          exact zk4 hagain19 rfl rfl rfl rfl he
        obtain ⟨hn11, he⟩ := zg_e he
        by_cases c12 : r21 = (-1 : Int)
        · have he := zif_t c12 he
          refine zif_p ((zo_eq rfl (zo_ln 1) hn11 (by decide)).mpr c12) ?_
          exact zk3 hk27 rfl rfl rfl he
        · have he := zif_f c12 he
          refine zif_n (fun q => c12 ((zo_eq rfl (zo_ln 1) hn11 (by decide)).mp q)) ?_
          obtain ⟨r29, hb13, he⟩ := zb1_e he
          refine (zb1_s (s_Numbers_at rfl rfl hb13)).trans ?_
          obtain ⟨v_comeCount_31, g_come_all_32, g_far_all_33, hb14, he⟩ := zb3_e he
          refine (zb3_s (s_Reach_reachAt rfl rfl rfl rfl (zo_add rfl (zo_l 1)) hb14)).trans ?_
          exact zk3 hk27 rfl rfl rfl he
theorem s_Reach_spreadFrom {v_comeCountf : Int32} {v_comeCount : Int} {g_come_allf : Nat → Int32} {g_come_all : Nat → Int} {g_far_allf : Nat → Int32} {g_far_all : Nat → Int} {g_town_kinds_allf : Nat → Int32} {g_town_kinds_all : Nat → Int} {p1f : Int32} {p1 : Int} {R0 : Int} {R1 : Nat → Int} {R2 : Nat → Int} (ev_comeCount : v_comeCountf = zo v_comeCount) (eg_come_all : g_come_allf = zoA g_come_all) (eg_far_all : g_far_allf = zoA g_far_all) (eg_town_kinds_all : g_town_kinds_allf = zoA g_town_kinds_all) (ep1 : p1f = zo p1) (he : g_Reach_spreadFrom v_comeCount g_come_all g_far_all g_town_kinds_all p1 = some (R0, R1, R2)) : f_Reach_spreadFrom v_comeCountf g_come_allf g_far_allf g_town_kinds_allf p1f = some (zo R0, zoA R1, zoA R2) := by
  subst ev_comeCount
  subst eg_come_all
  subst eg_far_all
  subst eg_town_kinds_all
  subst ep1
  unfold g_Reach_spreadFrom at he
  unfold f_Reach_spreadFrom
  obtain ⟨v_comeCount_1, g_far_all_2, hb1, he⟩ := zb2_e he
  refine (zb2_s (s_Reach_begin rfl rfl hb1)).trans ?_
  obtain ⟨v_comeCount_4, g_come_all_5, g_far_all_6, hb2, he⟩ := zb3_e he
  refine (zb3_s (s_Reach_setOut rfl rfl rfl rfl rfl hb2)).trans ?_
  obtain ⟨v_comeCount_8, g_come_all_9, g_far_all_10, hb3, he⟩ := zb3_e he
  refine (zb3_s (s_Reach_spread rfl rfl rfl rfl hb3)).trans ?_
  obtain ⟨rfl, rfl, rfl⟩ := zi3 he
  exact zs3 rfl rfl rfl
theorem s_Reach_stepsTo {g_far_allf : Nat → Int32} {g_far_all : Nat → Int} {p1f : Int32} {p1 : Int} {R0 : Int} (eg_far_all : g_far_allf = zoA g_far_all) (ep1 : p1f = zo p1) (he : g_Reach_stepsTo g_far_all p1 = some (R0)) : f_Reach_stepsTo g_far_allf p1f = some (zo R0) := by
  subst eg_far_all
  subst ep1
  unfold g_Reach_stepsTo at he
  unfold f_Reach_stepsTo
  obtain ⟨r1, hb1, he⟩ := zb1_e he
  refine (zb1_s (s_Numbers_at rfl rfl hb1)).trans ?_
  obtain ⟨rfl⟩ := zi1 he
  exact zs1 rfl
theorem s_X_steps {v_reach_comeCountf : Int32} {v_reach_comeCount : Int} {g_reach_come_allf : Nat → Int32} {g_reach_come_all : Nat → Int} {g_reach_far_allf : Nat → Int32} {g_reach_far_all : Nat → Int} {g_refused_allf : Nat → Int32} {g_refused_all : Nat → Int} {g_town_kinds_allf : Nat → Int32} {g_town_kinds_all : Nat → Int} {p1f : Int32} {p1 : Int} {p2f : Int32} {p2 : Int} {R0 : Int} {R1 : Int} {R2 : Nat → Int} {R3 : Nat → Int} {R4 : Nat → Int} (ev_reach_comeCount : v_reach_comeCountf = zo v_reach_comeCount) (eg_reach_come_all : g_reach_come_allf = zoA g_reach_come_all) (eg_reach_far_all : g_reach_far_allf = zoA g_reach_far_all) (eg_refused_all : g_refused_allf = zoA g_refused_all) (eg_town_kinds_all : g_town_kinds_allf = zoA g_town_kinds_all) (ep1 : p1f = zo p1) (ep2 : p2f = zo p2) (he : g_X_steps v_reach_comeCount g_reach_come_all g_reach_far_all g_refused_all g_town_kinds_all p1 p2 = some (R0, R1, R2, R3, R4)) : f_X_steps v_reach_comeCountf g_reach_come_allf g_reach_far_allf g_refused_allf g_town_kinds_allf p1f p2f = some (zo R0, zo R1, zoA R2, zoA R3, zoA R4) := by
  subst ev_reach_comeCount
  subst eg_reach_come_all
  subst eg_reach_far_all
  subst eg_refused_all
  subst eg_town_kinds_all
  subst ep1
  subst ep2
  unfold g_X_steps at he
  unfold f_X_steps
  obtain ⟨r1, hb1, he⟩ := zb1_e he
  refine (zb1_s (s_X_isSquare rfl hb1)).trans ?_
  refine zj1_z (m1 := id) he (fun _ he => ?_) (fun k6f k6 hk6 he => ?_)
  · obtain ⟨r3, g_refused_all_4, hb2, he⟩ := zb2_e he
    refine (zb2_s (s_X_refuse rfl (zo_ln 1) hb2)).trans ?_
    obtain ⟨rfl, rfl, rfl, rfl, rfl⟩ := zi5 he
    exact zs5 rfl rfl rfl rfl rfl
  obtain ⟨hn3, he⟩ := zg_e he
  by_cases c4 : r1 = (0 : Int)
  · have he := zif_t c4 he
    refine zif_p ((zo_eq rfl (zo_l 0) hn3 (by decide)).mpr c4) ?_
    exact zk1 hk6 rfl he
  · have he := zif_f c4 he
    refine zif_n (fun q => c4 ((zo_eq rfl (zo_l 0) hn3 (by decide)).mp q)) ?_
    obtain ⟨r8, hb5, he⟩ := zb1_e he
    refine (zb1_s (s_X_isSquare rfl hb5)).trans ?_
    obtain ⟨hn6, he⟩ := zg_e he
    by_cases c7 : r8 = (0 : Int)
    · have he := zif_t c7 he
      refine zif_p ((zo_eq rfl (zo_l 0) hn6 (by decide)).mpr c7) ?_
      exact zk1 hk6 rfl he
    · have he := zif_f c7 he
      refine zif_n (fun q => c7 ((zo_eq rfl (zo_l 0) hn6 (by decide)).mp q)) ?_
      obtain ⟨v_reach_comeCount_11, g_reach_come_all_12, g_reach_far_all_13, hb8, he⟩ := zb3_e he
      refine (zb3_s (s_Reach_spreadFrom rfl rfl rfl rfl rfl hb8)).trans ?_
      obtain ⟨r15, hb9, he⟩ := zb1_e he
      refine (zb1_s (s_Reach_stepsTo rfl rfl hb9)).trans ?_
      obtain ⟨rfl, rfl, rfl, rfl, rfl⟩ := zi5 he
      exact zs5 rfl rfl rfl rfl rfl
theorem s_Routes_chargeCorners {v_cornerPricef : Int32} {v_cornerPrice : Int} {v_stepPricef : Int32} {v_stepPrice : Int} {g_toll_allf : Nat → Int32} {g_toll_all : Nat → Int} {R0 : Int} {R1 : Int} {R2 : Nat → Int} (ev_cornerPrice : v_cornerPricef = zo v_cornerPrice) (ev_stepPrice : v_stepPricef = zo v_stepPrice) (eg_toll_all : g_toll_allf = zoA g_toll_all) (he : g_Routes_chargeCorners v_cornerPrice v_stepPrice g_toll_all = some (R0, R1, R2)) : f_Routes_chargeCorners v_cornerPricef v_stepPricef g_toll_allf = some (zo R0, zo R1, zoA R2) := by
  subst ev_cornerPrice
  subst ev_stepPrice
  subst eg_toll_all
  unfold g_Routes_chargeCorners at he
  unfold f_Routes_chargeCorners
  obtain ⟨g_toll_all_1, hb1, he⟩ := zb1_e he
  refine (zb1_s (s_Numbers_fill rfl (zo_l 0) hb1)).trans ?_
  obtain ⟨rfl, rfl, rfl⟩ := zi3 he
  exact zs3 (zo_l 1000) (zo_l 1) rfl
theorem s_Routes_mend {v_firstWaitingf : Int32} {v_firstWaiting : Int} {v_waitingCountf : Int32} {v_waitingCount : Int} {g_isWaiting_allf : Nat → Int32} {g_isWaiting_all : Nat → Int} {g_label_allf : Nat → Int32} {g_label_all : Nat → Int} {g_waiting_allf : Nat → Int32} {g_waiting_all : Nat → Int} {p1f : Int32} {p1 : Int} {p2f : Int32} {p2 : Int} {R0 : Int} {R1 : Nat → Int} {R2 : Nat → Int} {R3 : Nat → Int} (ev_firstWaiting : v_firstWaitingf = zo v_firstWaiting) (ev_waitingCount : v_waitingCountf = zo v_waitingCount) (eg_isWaiting_all : g_isWaiting_allf = zoA g_isWaiting_all) (eg_label_all : g_label_allf = zoA g_label_all) (eg_waiting_all : g_waiting_allf = zoA g_waiting_all) (ep1 : p1f = zo p1) (ep2 : p2f = zo p2) (he : g_Routes_mend v_firstWaiting v_waitingCount g_isWaiting_all g_label_all g_waiting_all p1 p2 = some (R0, R1, R2, R3)) : f_Routes_mend v_firstWaitingf v_waitingCountf g_isWaiting_allf g_label_allf g_waiting_allf p1f p2f = some (zo R0, zoA R1, zoA R2, zoA R3) := by
  subst ev_firstWaiting
  subst ev_waitingCount
  subst eg_isWaiting_all
  subst eg_label_all
  subst eg_waiting_all
  subst ep1
  subst ep2
  unfold g_Routes_mend at he
  unfold f_Routes_mend
  obtain ⟨r1, hb1, he⟩ := zb1_e he
  refine (zb1_s (s_Numbers_at rfl rfl hb1)).trans ?_
  obtain ⟨hn2, he⟩ := zg_e he
  obtain ⟨hn3, he⟩ := zg_e he
  by_cases c4 : p2 < r1
  · have he := zif_t c4 he
    refine zif_p ((zo_lt rfl rfl hn2 hn3).mpr c4) ?_
    obtain ⟨g_label_all_4, hb5, he⟩ := zb1_e he
    refine (zb1_s (s_Numbers_put rfl rfl rfl hb5)).trans ?_
    obtain ⟨r6, hb6, he⟩ := zb1_e he
    refine (zb1_s (s_Numbers_at rfl rfl hb6)).trans ?_
    obtain ⟨hn7, he⟩ := zg_e he
    by_cases c8 : r6 = (0 : Int)
    · have he := zif_t c8 he
      refine zif_p ((zo_eq rfl (zo_l 0) hn7 (by decide)).mpr c8) ?_
      obtain ⟨g_isWaiting_all_9, hb9, he⟩ := zb1_e he
      refine (zb1_s (s_Numbers_put rfl rfl (zo_l 1) hb9)).trans ?_
      obtain ⟨hn10, he⟩ := zg_e he
      obtain ⟨g_waiting_all_11, hb11, he⟩ := zb1_e he
      refine (zb1_s (s_Numbers_put rfl (zo_rem (zo_add rfl rfl) (zo_l 180) hn10 (by decide)) rfl hb11)).trans ?_
      obtain ⟨x13, hx12⟩ : ∃ y : Int, y = v_waitingCount + (1 : Int) := ⟨_, rfl⟩
      have he := zn_e hx12 he
      refine zn_z (y := zo x13) ((zo_add rfl (zo_l 1)).trans (congrArg zo hx12.symm)) ?_
      obtain ⟨rfl, rfl, rfl, rfl⟩ := zi4 he
      exact zs4 rfl rfl rfl rfl
    · have he := zif_f c8 he
      refine zif_n (fun q => c8 ((zo_eq rfl (zo_l 0) hn7 (by decide)).mp q)) ?_
      obtain ⟨rfl, rfl, rfl, rfl⟩ := zi4 he
      exact zs4 rfl rfl rfl rfl
  · have he := zif_f c4 he
    refine zif_n (fun q => c4 ((zo_lt rfl rfl hn2 hn3).mp q)) ?_
    obtain ⟨rfl, rfl, rfl, rfl⟩ := zi4 he
    exact zs4 rfl rfl rfl rfl
theorem s_Routes_begin {v_firstWaitingf : Int32} {v_firstWaiting : Int} {v_waitingCountf : Int32} {v_waitingCount : Int} {g_isWaiting_allf : Nat → Int32} {g_isWaiting_all : Nat → Int} {g_label_allf : Nat → Int32} {g_label_all : Nat → Int} {g_waiting_allf : Nat → Int32} {g_waiting_all : Nat → Int} {p1f : Int32} {p1 : Int} {R0 : Int} {R1 : Int} {R2 : Nat → Int} {R3 : Nat → Int} {R4 : Nat → Int} (ev_firstWaiting : v_firstWaitingf = zo v_firstWaiting) (ev_waitingCount : v_waitingCountf = zo v_waitingCount) (eg_isWaiting_all : g_isWaiting_allf = zoA g_isWaiting_all) (eg_label_all : g_label_allf = zoA g_label_all) (eg_waiting_all : g_waiting_allf = zoA g_waiting_all) (ep1 : p1f = zo p1) (he : g_Routes_begin v_firstWaiting v_waitingCount g_isWaiting_all g_label_all g_waiting_all p1 = some (R0, R1, R2, R3, R4)) : f_Routes_begin v_firstWaitingf v_waitingCountf g_isWaiting_allf g_label_allf g_waiting_allf p1f = some (zo R0, zo R1, zoA R2, zoA R3, zoA R4) := by
  subst ev_firstWaiting
  subst ev_waitingCount
  subst eg_isWaiting_all
  subst eg_label_all
  subst eg_waiting_all
  subst ep1
  unfold g_Routes_begin at he
  unfold f_Routes_begin
  obtain ⟨g_label_all_1, hb1, he⟩ := zb1_e he
  refine (zb1_s (s_Numbers_fill rfl (zo_l 2147483647) hb1)).trans ?_
  obtain ⟨g_isWaiting_all_3, hb2, he⟩ := zb1_e he
  refine (zb1_s (s_Numbers_fill rfl (zo_l 0) hb2)).trans ?_
  obtain ⟨v_waitingCount_5, g_isWaiting_all_6, g_label_all_7, g_waiting_all_8, hb3, he⟩ := zb4_e he
  refine (zb4_s (s_Routes_mend (zo_l 0) (zo_l 0) rfl rfl rfl (zo_add (zo_mul rfl (zo_l 5)) (zo_l 4)) (zo_l 0) hb3)).trans ?_
  obtain ⟨rfl, rfl, rfl, rfl, rfl⟩ := zi5 he
  exact zs5 (zo_l 0) rfl rfl rfl rfl
theorem s_Routes_takeWaiting {v_firstWaitingf : Int32} {v_firstWaiting : Int} {v_waitingCountf : Int32} {v_waitingCount : Int} {g_isWaiting_allf : Nat → Int32} {g_isWaiting_all : Nat → Int} {g_waiting_allf : Nat → Int32} {g_waiting_all : Nat → Int} {R0 : Int} {R1 : Int} {R2 : Int} {R3 : Nat → Int} (ev_firstWaiting : v_firstWaitingf = zo v_firstWaiting) (ev_waitingCount : v_waitingCountf = zo v_waitingCount) (eg_isWaiting_all : g_isWaiting_allf = zoA g_isWaiting_all) (eg_waiting_all : g_waiting_allf = zoA g_waiting_all) (he : g_Routes_takeWaiting v_firstWaiting v_waitingCount g_isWaiting_all g_waiting_all = some (R0, R1, R2, R3)) : f_Routes_takeWaiting v_firstWaitingf v_waitingCountf g_isWaiting_allf g_waiting_allf = some (zo R0, zo R1, zo R2, zoA R3) := by
  subst ev_firstWaiting
  subst ev_waitingCount
  subst eg_isWaiting_all
  subst eg_waiting_all
  unfold g_Routes_takeWaiting at he
  unfold f_Routes_takeWaiting
  obtain ⟨r1, hb1, he⟩ := zb1_e he
  refine (zb1_s (s_Numbers_at rfl rfl hb1)).trans ?_
  obtain ⟨hn2, he⟩ := zg_e he
  obtain ⟨x3, hx3⟩ : ∃ y : Int, y = (v_firstWaiting + (1 : Int)) % (180 : Int) := ⟨_, rfl⟩
  have he := zn_e hx3 he
  refine zn_z (y := zo x3) ((zo_rem (zo_add rfl (zo_l 1)) (zo_l 180) hn2 (by decide)).trans (congrArg zo hx3.symm)) ?_
  obtain ⟨x4, hx4⟩ : ∃ y : Int, y = v_waitingCount - (1 : Int) := ⟨_, rfl⟩
  have he := zn_e hx4 he
  refine zn_z (y := zo x4) ((zo_sub rfl (zo_l 1)).trans (congrArg zo hx4.symm)) ?_
  obtain ⟨g_isWaiting_all_5, hb5, he⟩ := zb1_e he
  refine (zb1_s (s_Numbers_put rfl rfl (zo_l 0) hb5)).trans ?_
  obtain ⟨rfl, rfl, rfl, rfl⟩ := zi4 he
  exact zs4 rfl rfl rfl rfl
theorem s_Routes_goOnFrom {v_cornerPricef : Int32} {v_cornerPrice : Int} {v_firstWaitingf : Int32} {v_firstWaiting : Int} {v_stepPricef : Int32} {v_stepPrice : Int} {v_waitingCountf : Int32} {v_waitingCount : Int} {g_isWaiting_allf : Nat → Int32} {g_isWaiting_all : Nat → Int} {g_label_allf : Nat → Int32} {g_label_all : Nat → Int} {g_toll_allf : Nat → Int32} {g_toll_all : Nat → Int} {g_town_kinds_allf : Nat → Int32} {g_town_kinds_all : Nat → Int} {g_waiting_allf : Nat → Int32} {g_waiting_all : Nat → Int} {p1f : Int32} {p1 : Int} {R0 : Int} {R1 : Nat → Int} {R2 : Nat → Int} {R3 : Nat → Int} (ev_cornerPrice : v_cornerPricef = zo v_cornerPrice) (ev_firstWaiting : v_firstWaitingf = zo v_firstWaiting) (ev_stepPrice : v_stepPricef = zo v_stepPrice) (ev_waitingCount : v_waitingCountf = zo v_waitingCount) (eg_isWaiting_all : g_isWaiting_allf = zoA g_isWaiting_all) (eg_label_all : g_label_allf = zoA g_label_all) (eg_toll_all : g_toll_allf = zoA g_toll_all) (eg_town_kinds_all : g_town_kinds_allf = zoA g_town_kinds_all) (eg_waiting_all : g_waiting_allf = zoA g_waiting_all) (ep1 : p1f = zo p1) (he : g_Routes_goOnFrom v_cornerPrice v_firstWaiting v_stepPrice v_waitingCount g_isWaiting_all g_label_all g_toll_all g_town_kinds_all g_waiting_all p1 = some (R0, R1, R2, R3)) : f_Routes_goOnFrom v_cornerPricef v_firstWaitingf v_stepPricef v_waitingCountf g_isWaiting_allf g_label_allf g_toll_allf g_town_kinds_allf g_waiting_allf p1f = some (zo R0, zoA R1, zoA R2, zoA R3) := by
  subst ev_cornerPrice
  subst ev_firstWaiting
  subst ev_stepPrice
  subst ev_waitingCount
  subst eg_isWaiting_all
  subst eg_label_all
  subst eg_toll_all
  subst eg_town_kinds_all
  subst eg_waiting_all
  subst ep1
  unfold g_Routes_goOnFrom at he
  unfold f_Routes_goOnFrom
  obtain ⟨hn1, he⟩ := zg_e he
  obtain ⟨x1, hx2⟩ : ∃ y : Int, y = p1 / (5 : Int) := ⟨_, rfl⟩
  have he := zn_e hx2 he
  refine zn_z (y := zo x1) ((zo_div rfl (zo_l 5) hn1 (by decide)).trans (congrArg zo hx2.symm)) ?_
  obtain ⟨x2, hx3⟩ : ∃ y : Int, y = p1 % (5 : Int) := ⟨_, rfl⟩
  have he := zn_e hx3 he
  refine zn_z (y := zo x2) ((zo_rem rfl (zo_l 5) hn1 (by decide)).trans (congrArg zo hx3.symm)) ?_
  refine zl5_z (m1 := zo) (m2 := zo) (m3 := zoA) (m4 := zoA) (m5 := zoA) (zo_l 0) rfl rfl rfl rfl he (fun l4_3 v_waitingCount_4 g_isWaiting_all_5 g_label_all_6 g_waiting_all_7 again8f again8 hagain8 he => ?_)
  obtain ⟨hn4, he⟩ := zg_e he
  by_cases c5 : (4 : Int) ≤ l4_3
  · have he := zif_t c5 he
    refine zif_p ((zo_le (zo_l 4) rfl (by decide) hn4).mpr c5) ?_
    obtain ⟨rfl, rfl, rfl, rfl⟩ := zi4 he
    exact zs4 rfl rfl rfl rfl
  · have he := zif_f c5 he
    refine zif_n (fun q => c5 ((zo_le (zo_l 4) rfl (by decide) hn4).mp q)) ?_
    obtain ⟨r10, hb6, he⟩ := zb1_e he
    refine (zb1_s (s_Town_next rfl rfl rfl hb6)).trans ?_
    refine zj4_z (m1 := zo) (m2 := zoA) (m3 := zoA) (m4 := zoA) he (fun v_waitingCount_12 g_isWaiting_all_13 g_label_all_14 g_waiting_all_15 he => ?_) (fun k17f k17 hk17 he => ?_)
    · obtain ⟨x16, hx7⟩ : ∃ y : Int, y = l4_3 + (1 : Int) := ⟨_, rfl⟩
      have he := zn_e hx7 he
      refine zn_z (y := zo x16) ((zo_add rfl (zo_l 1)).trans (congrArg zo hx7.symm)) ?_
      exact zk5 hagain8 rfl rfl rfl rfl rfl he
    obtain ⟨hn8, he⟩ := zg_e he
    by_cases c9 : r10 = (-1 : Int)
    · have he := zif_t c9 he
      refine zif_p ((zo_eq rfl (zo_ln 1) hn8 (by decide)).mpr c9) ?_
      exact zk4 hk17 rfl rfl rfl rfl he
    · have he := zif_f c9 he
      refine zif_n (fun q => c9 ((zo_eq rfl (zo_ln 1) hn8 (by decide)).mp q)) ?_
      obtain ⟨r19, hb10, he⟩ := zb1_e he
      refine (zb1_s (s_Town_isCorner rfl rfl rfl rfl hb10)).trans ?_
      refine zj1_z (m1 := zo) he (fun s21 he => ?_) (fun k33f k33 hk33 he => ?_)
      · obtain ⟨x22, hx11⟩ : ∃ y : Int, y = v_stepPrice + s21 := ⟨_, rfl⟩
        have he := zn_e hx11 he
        refine zn_z (y := zo x22) ((zo_add rfl rfl).trans (congrArg zo hx11.symm)) ?_
        refine zj1_z (m1 := zo) he (fun s23 he => ?_) (fun k31f k31 hk31 he => ?_)
        · obtain ⟨r24, hb12, he⟩ := zb1_e he
          refine (zb1_s (s_Numbers_at rfl rfl hb12)).trans ?_
          obtain ⟨v_waitingCount_26, g_isWaiting_all_27, g_label_all_28, g_waiting_all_29, hb13, he⟩ := zb4_e he
          refine (zb4_s (s_Routes_mend rfl rfl rfl rfl rfl (zo_add (zo_mul rfl (zo_l 5)) rfl) (zo_add (zo_add rfl (zo_mul rfl (zo_l 4))) rfl) hb13)).trans ?_
          exact zk4 hk17 rfl rfl rfl rfl he
        obtain ⟨hn14, he⟩ := zg_e he
        by_cases c15 : x2 = (4 : Int)
        · have he := zif_t c15 he
          refine zif_p ((zo_eq rfl (zo_l 4) hn14 (by decide)).mpr c15) ?_
          exact zk1 hk31 rfl he
        · have he := zif_f c15 he
          refine zif_n (fun q => c15 ((zo_eq rfl (zo_l 4) hn14 (by decide)).mp q)) ?_
          exact zk1 hk31 (zo_l 0) he
      obtain ⟨hn16, he⟩ := zg_e he
      by_cases c17 : r19 = (0 : Int)
      · have he := zif_t c17 he
        refine zif_p ((zo_eq rfl (zo_l 0) hn16 (by decide)).mpr c17) ?_
        obtain ⟨r35, hb18, he⟩ := zb1_e he
        refine (zb1_s (s_Numbers_at rfl rfl hb18)).trans ?_
        exact zk1 hk33 rfl he
      · have he := zif_f c17 he
        refine zif_n (fun q => c17 ((zo_eq rfl (zo_l 0) hn16 (by decide)).mp q)) ?_
        exact zk1 hk33 rfl he
theorem s_Routes_cheapest {v_cornerPricef : Int32} {v_cornerPrice : Int} {v_firstWaitingf : Int32} {v_firstWaiting : Int} {v_stepPricef : Int32} {v_stepPrice : Int} {v_waitingCountf : Int32} {v_waitingCount : Int} {g_isWaiting_allf : Nat → Int32} {g_isWaiting_all : Nat → Int} {g_label_allf : Nat → Int32} {g_label_all : Nat → Int} {g_toll_allf : Nat → Int32} {g_toll_all : Nat → Int} {g_town_kinds_allf : Nat → Int32} {g_town_kinds_all : Nat → Int} {g_waiting_allf : Nat → Int32} {g_waiting_all : Nat → Int} {p1f : Int32} {p1 : Int} {p2f : Int32} {p2 : Int} {R0 : Int} {R1 : Int} {R2 : Int} {R3 : Nat → Int} {R4 : Nat → Int} {R5 : Nat → Int} (ev_cornerPrice : v_cornerPricef = zo v_cornerPrice) (ev_firstWaiting : v_firstWaitingf = zo v_firstWaiting) (ev_stepPrice : v_stepPricef = zo v_stepPrice) (ev_waitingCount : v_waitingCountf = zo v_waitingCount) (eg_isWaiting_all : g_isWaiting_allf = zoA g_isWaiting_all) (eg_label_all : g_label_allf = zoA g_label_all) (eg_toll_all : g_toll_allf = zoA g_toll_all) (eg_town_kinds_all : g_town_kinds_allf = zoA g_town_kinds_all) (eg_waiting_all : g_waiting_allf = zoA g_waiting_all) (ep1 : p1f = zo p1) (ep2 : p2f = zo p2) (he : g_Routes_cheapest v_cornerPrice v_firstWaiting v_stepPrice v_waitingCount g_isWaiting_all g_label_all g_toll_all g_town_kinds_all g_waiting_all p1 p2 = some (R0, R1, R2, R3, R4, R5)) : f_Routes_cheapest v_cornerPricef v_firstWaitingf v_stepPricef v_waitingCountf g_isWaiting_allf g_label_allf g_toll_allf g_town_kinds_allf g_waiting_allf p1f p2f = some (zo R0, zo R1, zo R2, zoA R3, zoA R4, zoA R5) := by
  subst ev_cornerPrice
  subst ev_firstWaiting
  subst ev_stepPrice
  subst ev_waitingCount
  subst eg_isWaiting_all
  subst eg_label_all
  subst eg_toll_all
  subst eg_town_kinds_all
  subst eg_waiting_all
  subst ep1
  subst ep2
  unfold g_Routes_cheapest at he
  unfold f_Routes_cheapest
  obtain ⟨r1, hb1, he⟩ := zb1_e he
  refine (zb1_s (s_Town_canBe rfl rfl hb1)).trans ?_
  obtain ⟨hn2, he⟩ := zg_e he
  by_cases c3 : r1 = (0 : Int)
  · have he := zif_t c3 he
    refine zif_p ((zo_eq rfl (zo_l 0) hn2 (by decide)).mpr c3) ?_
    obtain ⟨rfl, rfl, rfl, rfl, rfl, rfl⟩ := zi6 he
    exact zs6 (zo_ln 9) rfl rfl rfl rfl rfl
  · have he := zif_f c3 he
    refine zif_n (fun q => c3 ((zo_eq rfl (zo_l 0) hn2 (by decide)).mp q)) ?_
    obtain ⟨v_firstWaiting_4, v_waitingCount_5, g_isWaiting_all_6, g_label_all_7, g_waiting_all_8, hb4, he⟩ := zb5_e he
    refine (zb5_s (s_Routes_begin rfl rfl rfl rfl rfl rfl hb4)).trans ?_
    refine zj5_z (m1 := zo) (m2 := zo) (m3 := zoA) (m4 := zoA) (m5 := zoA) he (fun v_firstWaiting_10 v_waitingCount_11 g_isWaiting_all_12 g_label_all_13 g_waiting_all_14 he => ?_) (fun k26f k26 hk26 he => ?_)
    · refine zj1_z (m1 := zo) he (fun l3_15 he => ?_) (fun k17f k17 hk17 he => ?_)
      · obtain ⟨hn5, he⟩ := zg_e he
        by_cases c6 : l3_15 = (2147483647 : Int)
        · have he := zif_t c6 he
          refine zif_p ((zo_eq rfl (zo_l 2147483647) hn5 (by decide)).mpr c6) ?_
          obtain ⟨rfl, rfl, rfl, rfl, rfl, rfl⟩ := zi6 he
          exact zs6 (zo_ln 9) rfl rfl rfl rfl rfl
        · have he := zif_f c6 he
          refine zif_n (fun q => c6 ((zo_eq rfl (zo_l 2147483647) hn5 (by decide)).mp q)) ?_
          obtain ⟨rfl, rfl, rfl, rfl, rfl, rfl⟩ := zi6 he
          exact zs6 rfl rfl rfl rfl rfl rfl
      refine zl2_z (m1 := zo) (m2 := zo) (zo_l 2147483647) (zo_l 0) he (fun l3_18 l4_19 again20f again20 hagain20 he => ?_)
      obtain ⟨hn7, he⟩ := zg_e he
      by_cases c8 : (5 : Int) ≤ l4_19
      · have he := zif_t c8 he
        refine zif_p ((zo_le (zo_l 5) rfl (by decide) hn7).mpr c8) ?_
        exact zk1 hk17 rfl he
      · have he := zif_f c8 he
        refine zif_n (fun q => c8 ((zo_le (zo_l 5) rfl (by decide) hn7).mp q)) ?_
        obtain ⟨r22, hb9, he⟩ := zb1_e he
        refine (zb1_s (s_Numbers_at rfl (zo_add (zo_mul rfl (zo_l 5)) rfl) hb9)).trans ?_
        obtain ⟨hn10, he⟩ := zg_e he
        obtain ⟨hn11, he⟩ := zg_e he
        obtain ⟨x24, hx12⟩ : ∃ y : Int, y = min l3_18 r22 := ⟨_, rfl⟩
        have he := zn_e hx12 he
        refine zn_z (y := zo x24) ((zo_min rfl rfl hn10 hn11).trans (congrArg zo hx12.symm)) ?_
        obtain ⟨x25, hx13⟩ : ∃ y : Int, y = l4_19 + (1 : Int) := ⟨_, rfl⟩
        have he := zn_e hx13 he
        refine zn_z (y := zo x25) ((zo_add rfl (zo_l 1)).trans (congrArg zo hx13.symm)) ?_
        exact zk2 hagain20 rfl rfl he
    refine zl6_z (m1 := zo) (m2 := zo) (m3 := zo) (m4 := zoA) (m5 := zoA) (m6 := zoA) (zo_l 0) rfl rfl rfl rfl rfl he (fun l3_27 v_firstWaiting_28 v_waitingCount_29 g_isWaiting_all_30 g_label_all_31 g_waiting_all_32 again33f again33 hagain33 he => ?_)
    obtain ⟨hn14, he⟩ := zg_e he
    by_cases c15 : (1000000 : Int) ≤ l3_27
    · have he := zif_t c15 he
      refine zif_p ((zo_le (zo_l 1000000) rfl (by decide) hn14).mpr c15) ?_
      exact zk5 hk26 rfl rfl rfl rfl rfl he
    · have he := zif_f c15 he
      refine zif_n (fun q => c15 ((zo_le (zo_l 1000000) rfl (by decide) hn14).mp q)) ?_
      obtain ⟨hn16, he⟩ := zg_e he
      by_cases c17 : v_waitingCount_29 ≤ (0 : Int)
      · have he := zif_t c17 he
        refine zif_p ((zo_le rfl (zo_l 0) hn16 (by decide)).mpr c17) ?_
        exact zk5 hk26 rfl rfl rfl rfl rfl he
      · have he := zif_f c17 he
        refine zif_n (fun q => c17 ((zo_le rfl (zo_l 0) hn16 (by decide)).mp q)) ?_
        obtain ⟨r36, v_firstWaiting_37, v_waitingCount_38, g_isWaiting_all_39, hb18, he⟩ := zb4_e he
        refine (zb4_s (s_Routes_takeWaiting rfl rfl rfl rfl hb18)).trans ?_
        obtain ⟨v_waitingCount_41, g_isWaiting_all_42, g_label_all_43, g_waiting_all_44, hb19, he⟩ := zb4_e he
        refine (zb4_s (s_Routes_goOnFrom rfl rfl rfl rfl rfl rfl rfl rfl rfl rfl hb19)).trans ?_
        obtain ⟨x46, hx20⟩ : ∃ y : Int, y = l3_27 + (1 : Int) := ⟨_, rfl⟩
        have he := zn_e hx20 he
        refine zn_z (y := zo x46) ((zo_add rfl (zo_l 1)).trans (congrArg zo hx20.symm)) ?_
        exact zk6 hagain33 rfl rfl rfl rfl rfl rfl he
theorem s_Routes_firstWayOf {p0f : Int32} {p0 : Int} {R0 : Int} (ep0 : p0f = zo p0) (he : g_Routes_firstWayOf p0 = some (R0)) : f_Routes_firstWayOf p0f = some (zo R0) := by
  subst ep0
  unfold g_Routes_firstWayOf at he
  unfold f_Routes_firstWayOf
  obtain ⟨hn1, he⟩ := zg_e he
  by_cases c2 : p0 = (-9 : Int)
  · have he := zif_t c2 he
    refine zif_p ((zo_eq rfl (zo_ln 9) hn1 (by decide)).mpr c2) ?_
    obtain ⟨rfl⟩ := zi1 he
    exact zs1 (zo_ln 9)
  · have he := zif_f c2 he
    refine zif_n (fun q => c2 ((zo_eq rfl (zo_ln 9) hn1 (by decide)).mp q)) ?_
    obtain ⟨hn3, he⟩ := zg_e he
    obtain ⟨rfl⟩ := zi1 he
    exact zs1 (zo_rem rfl (zo_l 4) hn3 (by decide))
theorem s_Routes_stepsOf {p0f : Int32} {p0 : Int} {R0 : Int} (ep0 : p0f = zo p0) (he : g_Routes_stepsOf p0 = some (R0)) : f_Routes_stepsOf p0f = some (zo R0) := by
  subst ep0
  unfold g_Routes_stepsOf at he
  unfold f_Routes_stepsOf
  obtain ⟨hn1, he⟩ := zg_e he
  by_cases c2 : p0 = (-9 : Int)
  · have he := zif_t c2 he
    refine zif_p ((zo_eq rfl (zo_ln 9) hn1 (by decide)).mpr c2) ?_
    obtain ⟨rfl⟩ := zi1 he
    exact zs1 (zo_ln 9)
  · have he := zif_f c2 he
    refine zif_n (fun q => c2 ((zo_eq rfl (zo_ln 9) hn1 (by decide)).mp q)) ?_
    obtain ⟨hn3, he⟩ := zg_e he
    obtain ⟨hn4, he⟩ := zg_e he
    obtain ⟨rfl⟩ := zi1 he
    exact zs1 (zo_rem (zo_div rfl (zo_l 4) hn3 (by decide)) (zo_l 1000) hn4 (by decide))
theorem s_Routes_cornersOf {p0f : Int32} {p0 : Int} {R0 : Int} (ep0 : p0f = zo p0) (he : g_Routes_cornersOf p0 = some (R0)) : f_Routes_cornersOf p0f = some (zo R0) := by
  subst ep0
  unfold g_Routes_cornersOf at he
  unfold f_Routes_cornersOf
  obtain ⟨hn1, he⟩ := zg_e he
  by_cases c2 : p0 = (-9 : Int)
  · have he := zif_t c2 he
    refine zif_p ((zo_eq rfl (zo_ln 9) hn1 (by decide)).mpr c2) ?_
    obtain ⟨rfl⟩ := zi1 he
    exact zs1 (zo_ln 9)
  · have he := zif_f c2 he
    refine zif_n (fun q => c2 ((zo_eq rfl (zo_ln 9) hn1 (by decide)).mp q)) ?_
    obtain ⟨hn3, he⟩ := zg_e he
    obtain ⟨hn4, he⟩ := zg_e he
    obtain ⟨rfl⟩ := zi1 he
    exact zs1 (zo_div (zo_div rfl (zo_l 4) hn3 (by decide)) (zo_l 1000) hn4 (by decide))
