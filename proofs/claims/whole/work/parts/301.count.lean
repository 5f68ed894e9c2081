def cnt (p : Nat → Prop) [DecidablePred p] : Nat → Int
  | 0 => 0
  | n + 1 => cnt p n + (if p n then 1 else 0)
theorem cnt_s (p : Nat → Prop) [DecidablePred p] (n : Nat) : cnt p (n + 1) = cnt p n + (if p n then 1 else 0) := rfl
def zHB (K : Nat → Int) (q : Nat) : Int := cnt (fun k => zap k q ≤ zhr (K k)) 36
theorem cnt_rng (p : Nat → Prop) [DecidablePred p] : ∀ n, 0 ≤ cnt p n ∧ cnt p n ≤ n
  | 0 => by simp [cnt]
  | n + 1 => by
    have := cnt_rng p n
    unfold cnt
    split <;> omega
theorem zHB_rng (K : Nat → Int) (q : Nat) : 0 ≤ zHB K q ∧ zHB K q ≤ 36 := cnt_rng _ 36
theorem zap_rng {a b : Nat} (ha : a < 36) (hb : b < 36) : 0 ≤ zap a b ∧ zap a b ≤ 10 := by
  unfold zap
  constructor <;> omega
theorem zhr_rng (k : Int) : -9 ≤ zhr k ∧ zhr k ≤ 2 := by
  unfold zhr
  split
  · omega
  · split <;> omega
theorem zwd_rng (k : Int) : 0 ≤ zwd k ∧ zwd k ≤ 2 := by
  unfold zwd
  split
  · omega
  · split <;> omega
theorem e_heardBy {K : Nat → Int} (hK : zK K) {q : Nat} (hq : q < 36) : g_Town_heardBy K (q : Int) = some (zHB K q) := by
  refine ev_is ?_
  unfold g_Town_heardBy
  refine ev_f2_2 36 (by decide) (fun i a => a = cnt (fun k => zap k q ≤ zhr (K k)) i) (fun i a ag hi hQ hag => ?_) rfl
  refine ev_g (by omega) (ev_if (fun h => ?_) (fun h => ?_))
  · have : i = 36 := by omega
    subst this
    exact ev_some hQ
  · refine ev_c1 (e_apart (by omega) hq) (ev_c1 (e_hearing hK (by omega)) (ev_i1 ?_))
    have r1 := zap_rng (a := i) (b := q) (by omega) hq
    have r2 := zhr_rng (K i)
    refine ev_g (by omega) (ev_g (by omega) (ev_if (fun h2 => ?_) (fun h2 => ?_)))
    · exact hag _ (by omega) (by rw [hQ, cnt_s, if_neg (by omega)])
    · exact hag _ (by omega) (by rw [hQ, cnt_s, if_pos (by omega)])
theorem e_M_heardBy {s K : Nat → Int} (hs : zR s K) (hK : zK K) {q : Nat} (hq : q < 36) : g_M_heardBy s (q : Int) = some (zHB K q) := by
  refine ev_is ?_
  unfold g_M_heardBy
  refine ev_f2_2 36 (by decide) (fun i a => a = cnt (fun k => zap k q ≤ zhr (K k)) i) (fun i a ag hi hQ hag => ?_) rfl
  refine ev_g (by omega) (ev_if (fun h => ?_) (fun h => ?_))
  · have : i = 36 := by omega
    subst this
    exact ev_some hQ
  · have e1 := hs i (by omega)
    refine ev_g (by omega) (ev_c1 (by rw [Int.toNat_natCast, e1]; exact e_M_hears (hK i (by omega))) (ev_c1 (e_M_apart (by omega) hq) (ev_i1 ?_)))
    have r1 := zap_rng (a := i) (b := q) (by omega) hq
    have r2 := zhr_rng (K i)
    refine ev_g (by omega) (ev_g (by omega) (ev_if (fun h2 => ?_) (fun h2 => ?_)))
    · exact hag _ (by omega) (by rw [hQ, cnt_s, if_neg (by omega)])
    · exact hag _ (by omega) (by rw [hQ, cnt_s, if_pos (by omega)])
