-- own text: two functions side by side
def ev2 {ρ σ : Type} (x : Option ρ) (y : Option σ) (P : ρ → σ → Prop) : Prop := ∃ r s, x = some r ∧ y = some s ∧ P r s
theorem e2_some {ρ σ : Type} {P : ρ → σ → Prop} {r : ρ} {s : σ} (h : P r s) : ev2 (some r) (some s) P := ⟨r, s, rfl, rfl, h⟩
theorem e2_ev {ρ σ : Type} {P : ρ → σ → Prop} {x : Option ρ} {y : Option σ} (h : ev x (fun r => ev y (fun s => P r s))) : ev2 x y P := by
  obtain ⟨r, e, s, e2, h⟩ := h
  exact ⟨r, s, e, e2, h⟩
theorem e2_mono {ρ σ : Type} {P Q : ρ → σ → Prop} {x : Option ρ} {y : Option σ} (h : ev2 x y P) (k : ∀ r s, P r s → Q r s) : ev2 x y Q := by
  obtain ⟨r, s, e, e2, h⟩ := h
  exact ⟨r, s, e, e2, k r s h⟩
theorem l_g {ρ σ : Type} {P : ρ → σ → Prop} {y : Option σ} {p : Prop} {d : Decidable p} {k : Option ρ} (hp : p) (h : ev2 (k) y P) : ev2 (zg p k) y P := by unfold zg; rw [if_pos hp]; exact h
theorem l_n {α ρ σ : Type} {P : ρ → σ → Prop} {y : Option σ} {v : α} {k : α → Option ρ} (h : ev2 (k v) y P) : ev2 (zn v k) y P := h
theorem l_t {ρ σ : Type} {P : ρ → σ → Prop} {y : Option σ} {c : Prop} {d : Decidable c} {a b : Option ρ} (hc : c) (h : ev2 (a) y P) : ev2 (@ite _ c d a b) y P := by rw [if_pos hc]; exact h
theorem l_f {ρ σ : Type} {P : ρ → σ → Prop} {y : Option σ} {c : Prop} {d : Decidable c} {a b : Option ρ} (hc : ¬ c) (h : ev2 (b) y P) : ev2 (@ite _ c d a b) y P := by rw [if_neg hc]; exact h
theorem l_if {ρ σ : Type} {P : ρ → σ → Prop} {y : Option σ} {c : Prop} {d : Decidable c} {a b : Option ρ} (h1 : c → ev2 (a) y P) (h2 : ¬ c → ev2 (b) y P) : ev2 (@ite _ c d a b) y P := by
  by_cases h : c
  · rw [if_pos h]; exact h1 h
  · rw [if_neg h]; exact h2 h
theorem l_c1 {α1 ρ σ : Type} {P : ρ → σ → Prop} {y : Option σ} {q : Option (α1)} {k : α1 → Option ρ} {v1 : α1} (e : q = some (v1)) (h : ev2 (k v1) y P) : ev2 (zb1 q k) y P := by subst e; exact h
theorem l_i1 {α1 ρ σ : Type} {P : ρ → σ → Prop} {y : Option σ} {kk : α1 → Option ρ} {b : (α1 → Option ρ) → Option ρ} (h : ev2 (b kk) y P) : ev2 (zj1 kk b) y P := h
theorem l_c2 {α1 α2 ρ σ : Type} {P : ρ → σ → Prop} {y : Option σ} {q : Option (α1 × α2)} {k : α1 → α2 → Option ρ} {v1 : α1} {v2 : α2} (e : q = some (v1, v2)) (h : ev2 (k v1 v2) y P) : ev2 (zb2 q k) y P := by subst e; exact h
theorem l_i2 {α1 α2 ρ σ : Type} {P : ρ → σ → Prop} {y : Option σ} {kk : α1 → α2 → Option ρ} {b : (α1 → α2 → Option ρ) → Option ρ} (h : ev2 (b kk) y P) : ev2 (zj2 kk b) y P := h
theorem l_c3 {α1 α2 α3 ρ σ : Type} {P : ρ → σ → Prop} {y : Option σ} {q : Option (α1 × α2 × α3)} {k : α1 → α2 → α3 → Option ρ} {v1 : α1} {v2 : α2} {v3 : α3} (e : q = some (v1, v2, v3)) (h : ev2 (k v1 v2 v3) y P) : ev2 (zb3 q k) y P := by subst e; exact h
theorem l_i3 {α1 α2 α3 ρ σ : Type} {P : ρ → σ → Prop} {y : Option σ} {kk : α1 → α2 → α3 → Option ρ} {b : (α1 → α2 → α3 → Option ρ) → Option ρ} (h : ev2 (b kk) y P) : ev2 (zj3 kk b) y P := h
theorem l_c4 {α1 α2 α3 α4 ρ σ : Type} {P : ρ → σ → Prop} {y : Option σ} {q : Option (α1 × α2 × α3 × α4)} {k : α1 → α2 → α3 → α4 → Option ρ} {v1 : α1} {v2 : α2} {v3 : α3} {v4 : α4} (e : q = some (v1, v2, v3, v4)) (h : ev2 (k v1 v2 v3 v4) y P) : ev2 (zb4 q k) y P := by subst e; exact h
theorem l_i4 {α1 α2 α3 α4 ρ σ : Type} {P : ρ → σ → Prop} {y : Option σ} {kk : α1 → α2 → α3 → α4 → Option ρ} {b : (α1 → α2 → α3 → α4 → Option ρ) → Option ρ} (h : ev2 (b kk) y P) : ev2 (zj4 kk b) y P := h
theorem l_c5 {α1 α2 α3 α4 α5 ρ σ : Type} {P : ρ → σ → Prop} {y : Option σ} {q : Option (α1 × α2 × α3 × α4 × α5)} {k : α1 → α2 → α3 → α4 → α5 → Option ρ} {v1 : α1} {v2 : α2} {v3 : α3} {v4 : α4} {v5 : α5} (e : q = some (v1, v2, v3, v4, v5)) (h : ev2 (k v1 v2 v3 v4 v5) y P) : ev2 (zb5 q k) y P := by subst e; exact h
theorem l_i5 {α1 α2 α3 α4 α5 ρ σ : Type} {P : ρ → σ → Prop} {y : Option σ} {kk : α1 → α2 → α3 → α4 → α5 → Option ρ} {b : (α1 → α2 → α3 → α4 → α5 → Option ρ) → Option ρ} (h : ev2 (b kk) y P) : ev2 (zj5 kk b) y P := h
theorem l_c6 {α1 α2 α3 α4 α5 α6 ρ σ : Type} {P : ρ → σ → Prop} {y : Option σ} {q : Option (α1 × α2 × α3 × α4 × α5 × α6)} {k : α1 → α2 → α3 → α4 → α5 → α6 → Option ρ} {v1 : α1} {v2 : α2} {v3 : α3} {v4 : α4} {v5 : α5} {v6 : α6} (e : q = some (v1, v2, v3, v4, v5, v6)) (h : ev2 (k v1 v2 v3 v4 v5 v6) y P) : ev2 (zb6 q k) y P := by subst e; exact h
theorem l_i6 {α1 α2 α3 α4 α5 α6 ρ σ : Type} {P : ρ → σ → Prop} {y : Option σ} {kk : α1 → α2 → α3 → α4 → α5 → α6 → Option ρ} {b : (α1 → α2 → α3 → α4 → α5 → α6 → Option ρ) → Option ρ} (h : ev2 (b kk) y P) : ev2 (zj6 kk b) y P := h
theorem l_c7 {α1 α2 α3 α4 α5 α6 α7 ρ σ : Type} {P : ρ → σ → Prop} {y : Option σ} {q : Option (α1 × α2 × α3 × α4 × α5 × α6 × α7)} {k : α1 → α2 → α3 → α4 → α5 → α6 → α7 → Option ρ} {v1 : α1} {v2 : α2} {v3 : α3} {v4 : α4} {v5 : α5} {v6 : α6} {v7 : α7} (e : q = some (v1, v2, v3, v4, v5, v6, v7)) (h : ev2 (k v1 v2 v3 v4 v5 v6 v7) y P) : ev2 (zb7 q k) y P := by subst e; exact h
theorem l_i7 {α1 α2 α3 α4 α5 α6 α7 ρ σ : Type} {P : ρ → σ → Prop} {y : Option σ} {kk : α1 → α2 → α3 → α4 → α5 → α6 → α7 → Option ρ} {b : (α1 → α2 → α3 → α4 → α5 → α6 → α7 → Option ρ) → Option ρ} (h : ev2 (b kk) y P) : ev2 (zj7 kk b) y P := h
theorem l_c8 {α1 α2 α3 α4 α5 α6 α7 α8 ρ σ : Type} {P : ρ → σ → Prop} {y : Option σ} {q : Option (α1 × α2 × α3 × α4 × α5 × α6 × α7 × α8)} {k : α1 → α2 → α3 → α4 → α5 → α6 → α7 → α8 → Option ρ} {v1 : α1} {v2 : α2} {v3 : α3} {v4 : α4} {v5 : α5} {v6 : α6} {v7 : α7} {v8 : α8} (e : q = some (v1, v2, v3, v4, v5, v6, v7, v8)) (h : ev2 (k v1 v2 v3 v4 v5 v6 v7 v8) y P) : ev2 (zb8 q k) y P := by subst e; exact h
theorem l_i8 {α1 α2 α3 α4 α5 α6 α7 α8 ρ σ : Type} {P : ρ → σ → Prop} {y : Option σ} {kk : α1 → α2 → α3 → α4 → α5 → α6 → α7 → α8 → Option ρ} {b : (α1 → α2 → α3 → α4 → α5 → α6 → α7 → α8 → Option ρ) → Option ρ} (h : ev2 (b kk) y P) : ev2 (zj8 kk b) y P := h
theorem l_c9 {α1 α2 α3 α4 α5 α6 α7 α8 α9 ρ σ : Type} {P : ρ → σ → Prop} {y : Option σ} {q : Option (α1 × α2 × α3 × α4 × α5 × α6 × α7 × α8 × α9)} {k : α1 → α2 → α3 → α4 → α5 → α6 → α7 → α8 → α9 → Option ρ} {v1 : α1} {v2 : α2} {v3 : α3} {v4 : α4} {v5 : α5} {v6 : α6} {v7 : α7} {v8 : α8} {v9 : α9} (e : q = some (v1, v2, v3, v4, v5, v6, v7, v8, v9)) (h : ev2 (k v1 v2 v3 v4 v5 v6 v7 v8 v9) y P) : ev2 (zb9 q k) y P := by subst e; exact h
theorem l_i9 {α1 α2 α3 α4 α5 α6 α7 α8 α9 ρ σ : Type} {P : ρ → σ → Prop} {y : Option σ} {kk : α1 → α2 → α3 → α4 → α5 → α6 → α7 → α8 → α9 → Option ρ} {b : (α1 → α2 → α3 → α4 → α5 → α6 → α7 → α8 → α9 → Option ρ) → Option ρ} (h : ev2 (b kk) y P) : ev2 (zj9 kk b) y P := h
theorem r_g {ρ σ : Type} {P : ρ → σ → Prop} {x : Option ρ} {p : Prop} {d : Decidable p} {k : Option σ} (hp : p) (h : ev2 x (k) P) : ev2 x (zg p k) P := by unfold zg; rw [if_pos hp]; exact h
theorem r_n {α ρ σ : Type} {P : ρ → σ → Prop} {x : Option ρ} {v : α} {k : α → Option σ} (h : ev2 x (k v) P) : ev2 x (zn v k) P := h
theorem r_t {ρ σ : Type} {P : ρ → σ → Prop} {x : Option ρ} {c : Prop} {d : Decidable c} {a b : Option σ} (hc : c) (h : ev2 x (a) P) : ev2 x (@ite _ c d a b) P := by rw [if_pos hc]; exact h
theorem r_f {ρ σ : Type} {P : ρ → σ → Prop} {x : Option ρ} {c : Prop} {d : Decidable c} {a b : Option σ} (hc : ¬ c) (h : ev2 x (b) P) : ev2 x (@ite _ c d a b) P := by rw [if_neg hc]; exact h
theorem r_if {ρ σ : Type} {P : ρ → σ → Prop} {x : Option ρ} {c : Prop} {d : Decidable c} {a b : Option σ} (h1 : c → ev2 x (a) P) (h2 : ¬ c → ev2 x (b) P) : ev2 x (@ite _ c d a b) P := by
  by_cases h : c
  · rw [if_pos h]; exact h1 h
  · rw [if_neg h]; exact h2 h
theorem r_c1 {α1 ρ σ : Type} {P : ρ → σ → Prop} {x : Option ρ} {q : Option (α1)} {k : α1 → Option σ} {v1 : α1} (e : q = some (v1)) (h : ev2 x (k v1) P) : ev2 x (zb1 q k) P := by subst e; exact h
theorem r_i1 {α1 ρ σ : Type} {P : ρ → σ → Prop} {x : Option ρ} {kk : α1 → Option σ} {b : (α1 → Option σ) → Option σ} (h : ev2 x (b kk) P) : ev2 x (zj1 kk b) P := h
theorem r_c2 {α1 α2 ρ σ : Type} {P : ρ → σ → Prop} {x : Option ρ} {q : Option (α1 × α2)} {k : α1 → α2 → Option σ} {v1 : α1} {v2 : α2} (e : q = some (v1, v2)) (h : ev2 x (k v1 v2) P) : ev2 x (zb2 q k) P := by subst e; exact h
theorem r_i2 {α1 α2 ρ σ : Type} {P : ρ → σ → Prop} {x : Option ρ} {kk : α1 → α2 → Option σ} {b : (α1 → α2 → Option σ) → Option σ} (h : ev2 x (b kk) P) : ev2 x (zj2 kk b) P := h
theorem r_c3 {α1 α2 α3 ρ σ : Type} {P : ρ → σ → Prop} {x : Option ρ} {q : Option (α1 × α2 × α3)} {k : α1 → α2 → α3 → Option σ} {v1 : α1} {v2 : α2} {v3 : α3} (e : q = some (v1, v2, v3)) (h : ev2 x (k v1 v2 v3) P) : ev2 x (zb3 q k) P := by subst e; exact h
theorem r_i3 {α1 α2 α3 ρ σ : Type} {P : ρ → σ → Prop} {x : Option ρ} {kk : α1 → α2 → α3 → Option σ} {b : (α1 → α2 → α3 → Option σ) → Option σ} (h : ev2 x (b kk) P) : ev2 x (zj3 kk b) P := h
theorem r_c4 {α1 α2 α3 α4 ρ σ : Type} {P : ρ → σ → Prop} {x : Option ρ} {q : Option (α1 × α2 × α3 × α4)} {k : α1 → α2 → α3 → α4 → Option σ} {v1 : α1} {v2 : α2} {v3 : α3} {v4 : α4} (e : q = some (v1, v2, v3, v4)) (h : ev2 x (k v1 v2 v3 v4) P) : ev2 x (zb4 q k) P := by subst e; exact h
theorem r_i4 {α1 α2 α3 α4 ρ σ : Type} {P : ρ → σ → Prop} {x : Option ρ} {kk : α1 → α2 → α3 → α4 → Option σ} {b : (α1 → α2 → α3 → α4 → Option σ) → Option σ} (h : ev2 x (b kk) P) : ev2 x (zj4 kk b) P := h
theorem r_c5 {α1 α2 α3 α4 α5 ρ σ : Type} {P : ρ → σ → Prop} {x : Option ρ} {q : Option (α1 × α2 × α3 × α4 × α5)} {k : α1 → α2 → α3 → α4 → α5 → Option σ} {v1 : α1} {v2 : α2} {v3 : α3} {v4 : α4} {v5 : α5} (e : q = some (v1, v2, v3, v4, v5)) (h : ev2 x (k v1 v2 v3 v4 v5) P) : ev2 x (zb5 q k) P := by subst e; exact h
theorem r_i5 {α1 α2 α3 α4 α5 ρ σ : Type} {P : ρ → σ → Prop} {x : Option ρ} {kk : α1 → α2 → α3 → α4 → α5 → Option σ} {b : (α1 → α2 → α3 → α4 → α5 → Option σ) → Option σ} (h : ev2 x (b kk) P) : ev2 x (zj5 kk b) P := h
theorem r_c6 {α1 α2 α3 α4 α5 α6 ρ σ : Type} {P : ρ → σ → Prop} {x : Option ρ} {q : Option (α1 × α2 × α3 × α4 × α5 × α6)} {k : α1 → α2 → α3 → α4 → α5 → α6 → Option σ} {v1 : α1} {v2 : α2} {v3 : α3} {v4 : α4} {v5 : α5} {v6 : α6} (e : q = some (v1, v2, v3, v4, v5, v6)) (h : ev2 x (k v1 v2 v3 v4 v5 v6) P) : ev2 x (zb6 q k) P := by subst e; exact h
theorem r_i6 {α1 α2 α3 α4 α5 α6 ρ σ : Type} {P : ρ → σ → Prop} {x : Option ρ} {kk : α1 → α2 → α3 → α4 → α5 → α6 → Option σ} {b : (α1 → α2 → α3 → α4 → α5 → α6 → Option σ) → Option σ} (h : ev2 x (b kk) P) : ev2 x (zj6 kk b) P := h
theorem r_c7 {α1 α2 α3 α4 α5 α6 α7 ρ σ : Type} {P : ρ → σ → Prop} {x : Option ρ} {q : Option (α1 × α2 × α3 × α4 × α5 × α6 × α7)} {k : α1 → α2 → α3 → α4 → α5 → α6 → α7 → Option σ} {v1 : α1} {v2 : α2} {v3 : α3} {v4 : α4} {v5 : α5} {v6 : α6} {v7 : α7} (e : q = some (v1, v2, v3, v4, v5, v6, v7)) (h : ev2 x (k v1 v2 v3 v4 v5 v6 v7) P) : ev2 x (zb7 q k) P := by subst e; exact h
theorem r_i7 {α1 α2 α3 α4 α5 α6 α7 ρ σ : Type} {P : ρ → σ → Prop} {x : Option ρ} {kk : α1 → α2 → α3 → α4 → α5 → α6 → α7 → Option σ} {b : (α1 → α2 → α3 → α4 → α5 → α6 → α7 → Option σ) → Option σ} (h : ev2 x (b kk) P) : ev2 x (zj7 kk b) P := h
theorem r_c8 {α1 α2 α3 α4 α5 α6 α7 α8 ρ σ : Type} {P : ρ → σ → Prop} {x : Option ρ} {q : Option (α1 × α2 × α3 × α4 × α5 × α6 × α7 × α8)} {k : α1 → α2 → α3 → α4 → α5 → α6 → α7 → α8 → Option σ} {v1 : α1} {v2 : α2} {v3 : α3} {v4 : α4} {v5 : α5} {v6 : α6} {v7 : α7} {v8 : α8} (e : q = some (v1, v2, v3, v4, v5, v6, v7, v8)) (h : ev2 x (k v1 v2 v3 v4 v5 v6 v7 v8) P) : ev2 x (zb8 q k) P := by subst e; exact h
theorem r_i8 {α1 α2 α3 α4 α5 α6 α7 α8 ρ σ : Type} {P : ρ → σ → Prop} {x : Option ρ} {kk : α1 → α2 → α3 → α4 → α5 → α6 → α7 → α8 → Option σ} {b : (α1 → α2 → α3 → α4 → α5 → α6 → α7 → α8 → Option σ) → Option σ} (h : ev2 x (b kk) P) : ev2 x (zj8 kk b) P := h
theorem r_c9 {α1 α2 α3 α4 α5 α6 α7 α8 α9 ρ σ : Type} {P : ρ → σ → Prop} {x : Option ρ} {q : Option (α1 × α2 × α3 × α4 × α5 × α6 × α7 × α8 × α9)} {k : α1 → α2 → α3 → α4 → α5 → α6 → α7 → α8 → α9 → Option σ} {v1 : α1} {v2 : α2} {v3 : α3} {v4 : α4} {v5 : α5} {v6 : α6} {v7 : α7} {v8 : α8} {v9 : α9} (e : q = some (v1, v2, v3, v4, v5, v6, v7, v8, v9)) (h : ev2 x (k v1 v2 v3 v4 v5 v6 v7 v8 v9) P) : ev2 x (zb9 q k) P := by subst e; exact h
theorem r_i9 {α1 α2 α3 α4 α5 α6 α7 α8 α9 ρ σ : Type} {P : ρ → σ → Prop} {x : Option ρ} {kk : α1 → α2 → α3 → α4 → α5 → α6 → α7 → α8 → α9 → Option σ} {b : (α1 → α2 → α3 → α4 → α5 → α6 → α7 → α8 → α9 → Option σ) → Option σ} (h : ev2 x (b kk) P) : ev2 x (zj9 kk b) P := h
theorem e2_f22_22 {α1 β1 ρ σ : Type} {P : ρ → σ → Prop} {b : α1 → Int → (α1 → Int → Option ρ) → Option ρ} {b2 : β1 → Int → (β1 → Int → Option σ) → Option σ} (N : Nat) (hN : N < 2147483648) (Q : Nat → α1 → β1 → Prop) (h : ∀ (i : Nat) (x1 : α1) (y1 : β1) (ag : α1 → Int → Option ρ) (ag2 : β1 → Int → Option σ), i ≤ N → Q i x1 y1 → (∀ (z1 : α1) (w1 : β1), i < N → Q (i + 1) z1 w1 → ev2 (ag z1 ((i : Int) + 1)) (ag2 w1 ((i : Int) + 1)) P) → ev2 (b x1 (i : Int) ag) (b2 y1 (i : Int) ag2) P) {x1 : α1} {y1 : β1} (h0 : Q 0 x1 y1) : ev2 (zl2 b zF x1 0) (zl2 b2 zF y1 0) P := by
  have key : ∀ (f i : Nat) (x1 : α1) (y1 : β1), i ≤ N → N < f + i → Q i x1 y1 → ev2 (zl2 b f x1 (i : Int)) (zl2 b2 f y1 (i : Int)) P := by
    intro f
    induction f with
    | zero => intro i x1 y1 h1 h2; omega
    | succ f ih =>
      intro i x1 y1 h1 h2 h3
      exact h i x1 y1 (zl2 b f) (zl2 b2 f) h1 h3 (fun z1 w1 hl hq => ih (i + 1) z1 w1 hl (by omega) hq)
  exact key zF 0 x1 y1 (Nat.zero_le _) (by have := zF_gt hN; omega) h0
theorem e2_f33_33 {α1 α2 β1 β2 ρ σ : Type} {P : ρ → σ → Prop} {b : α1 → α2 → Int → (α1 → α2 → Int → Option ρ) → Option ρ} {b2 : β1 → β2 → Int → (β1 → β2 → Int → Option σ) → Option σ} (N : Nat) (hN : N < 2147483648) (Q : Nat → α1 → α2 → β1 → β2 → Prop) (h : ∀ (i : Nat) (x1 : α1) (x2 : α2) (y1 : β1) (y2 : β2) (ag : α1 → α2 → Int → Option ρ) (ag2 : β1 → β2 → Int → Option σ), i ≤ N → Q i x1 x2 y1 y2 → (∀ (z1 : α1) (z2 : α2) (w1 : β1) (w2 : β2), i < N → Q (i + 1) z1 z2 w1 w2 → ev2 (ag z1 z2 ((i : Int) + 1)) (ag2 w1 w2 ((i : Int) + 1)) P) → ev2 (b x1 x2 (i : Int) ag) (b2 y1 y2 (i : Int) ag2) P) {x1 : α1} {x2 : α2} {y1 : β1} {y2 : β2} (h0 : Q 0 x1 x2 y1 y2) : ev2 (zl3 b zF x1 x2 0) (zl3 b2 zF y1 y2 0) P := by
  have key : ∀ (f i : Nat) (x1 : α1) (x2 : α2) (y1 : β1) (y2 : β2), i ≤ N → N < f + i → Q i x1 x2 y1 y2 → ev2 (zl3 b f x1 x2 (i : Int)) (zl3 b2 f y1 y2 (i : Int)) P := by
    intro f
    induction f with
    | zero => intro i x1 x2 y1 y2 h1 h2; omega
    | succ f ih =>
      intro i x1 x2 y1 y2 h1 h2 h3
      exact h i x1 x2 y1 y2 (zl3 b f) (zl3 b2 f) h1 h3 (fun z1 z2 w1 w2 hl hq => ih (i + 1) z1 z2 w1 w2 hl (by omega) hq)
  exact key zF 0 x1 x2 y1 y2 (Nat.zero_le _) (by have := zF_gt hN; omega) h0
theorem e2_f22_33 {α1 β1 β2 ρ σ : Type} {P : ρ → σ → Prop} {b : α1 → Int → (α1 → Int → Option ρ) → Option ρ} {b2 : β1 → β2 → Int → (β1 → β2 → Int → Option σ) → Option σ} (N : Nat) (hN : N < 2147483648) (Q : Nat → α1 → β1 → β2 → Prop) (h : ∀ (i : Nat) (x1 : α1) (y1 : β1) (y2 : β2) (ag : α1 → Int → Option ρ) (ag2 : β1 → β2 → Int → Option σ), i ≤ N → Q i x1 y1 y2 → (∀ (z1 : α1) (w1 : β1) (w2 : β2), i < N → Q (i + 1) z1 w1 w2 → ev2 (ag z1 ((i : Int) + 1)) (ag2 w1 w2 ((i : Int) + 1)) P) → ev2 (b x1 (i : Int) ag) (b2 y1 y2 (i : Int) ag2) P) {x1 : α1} {y1 : β1} {y2 : β2} (h0 : Q 0 x1 y1 y2) : ev2 (zl2 b zF x1 0) (zl3 b2 zF y1 y2 0) P := by
  have key : ∀ (f i : Nat) (x1 : α1) (y1 : β1) (y2 : β2), i ≤ N → N < f + i → Q i x1 y1 y2 → ev2 (zl2 b f x1 (i : Int)) (zl3 b2 f y1 y2 (i : Int)) P := by
    intro f
    induction f with
    | zero => intro i x1 y1 y2 h1 h2; omega
    | succ f ih =>
      intro i x1 y1 y2 h1 h2 h3
      exact h i x1 y1 y2 (zl2 b f) (zl3 b2 f) h1 h3 (fun z1 w1 w2 hl hq => ih (i + 1) z1 w1 w2 hl (by omega) hq)
  exact key zF 0 x1 y1 y2 (Nat.zero_le _) (by have := zF_gt hN; omega) h0
theorem e2_f11_11 { ρ σ : Type} {P : ρ → σ → Prop} {b : Int → (Int → Option ρ) → Option ρ} {b2 : Int → (Int → Option σ) → Option σ} (N : Nat) (hN : N < 2147483648) (Q : Nat → Prop) (h : ∀ (i : Nat)  (ag : Int → Option ρ) (ag2 : Int → Option σ), i ≤ N → Q i  → (∀ (_ : Unit), i < N → Q (i + 1)  → ev2 (ag ((i : Int) + 1)) (ag2 ((i : Int) + 1)) P) → ev2 (b (i : Int) ag) (b2 (i : Int) ag2) P)  (h0 : Q 0 ) : ev2 (zl1 b zF 0) (zl1 b2 zF 0) P := by
  have key : ∀ (f i : Nat) , i ≤ N → N < f + i → Q i  → ev2 (zl1 b f (i : Int)) (zl1 b2 f (i : Int)) P := by
    intro f
    induction f with
    | zero => intro i  h1 h2; omega
    | succ f ih =>
      intro i  h1 h2 h3
      exact h i  (zl1 b f) (zl1 b2 f) h1 h3 (fun _ hl hq => ih (i + 1)  hl (by omega) hq)
  exact key zF 0  (Nat.zero_le _) (by have := zF_gt hN; omega) h0
theorem e2_r {ρ σ : Type} {x : Option ρ} {y : Option σ} {P : ρ → σ → Prop} : ev2 x y P ↔ ev y (fun s => ∃ r, x = some r ∧ P r s) := by
  constructor
  · intro h; obtain ⟨r, s, e, e2, p⟩ := h; exact ⟨s, e2, r, e, p⟩
  · intro h; obtain ⟨s, e2, r, e, p⟩ := h; exact ⟨r, s, e, e2, p⟩
theorem e2_l {ρ σ : Type} {x : Option ρ} {y : Option σ} {P : ρ → σ → Prop} : ev2 x y P ↔ ev x (fun r => ∃ s, y = some s ∧ P r s) := by
  constructor
  · intro h; obtain ⟨r, s, e, e2, p⟩ := h; exact ⟨r, e, s, e2, p⟩
  · intro h; obtain ⟨r, e, s, e2, p⟩ := h; exact ⟨r, s, e, e2, p⟩
theorem l_f2_2 {α1 ρ σ : Type} {P : ρ → σ → Prop} {u : Option σ} {b : α1 → Int → (α1 → Int → Option ρ) → Option ρ} (N : Nat) (hN : N < 2147483648) (Q : Nat → α1 → Prop) (h : ∀ (i : Nat) (x1 : α1) (ag : α1 → Int → Option ρ), i ≤ N → Q i x1 → (∀ (z1 : α1), i < N → Q (i + 1) z1 → ev2 (ag z1 ((i : Int) + 1)) u P) → ev2 (b x1 (i : Int) ag) u P) {x1 : α1} (h0 : Q 0 x1) : ev2 (zl2 b zF x1 0) u P :=
  e2_l.mpr (ev_f2_2 N hN Q (fun i x1 ag hi hQ hag => e2_l.mp (h i x1 ag hi hQ (fun z1 hl hq => e2_l.mpr (hag z1 hl hq)))) h0)
theorem r_f2_2 {α1 ρ σ : Type} {P : ρ → σ → Prop} {u : Option ρ} {b : α1 → Int → (α1 → Int → Option σ) → Option σ} (N : Nat) (hN : N < 2147483648) (Q : Nat → α1 → Prop) (h : ∀ (i : Nat) (x1 : α1) (ag : α1 → Int → Option σ), i ≤ N → Q i x1 → (∀ (z1 : α1), i < N → Q (i + 1) z1 → ev2 u (ag z1 ((i : Int) + 1)) P) → ev2 u (b x1 (i : Int) ag) P) {x1 : α1} (h0 : Q 0 x1) : ev2 u (zl2 b zF x1 0) P :=
  e2_r.mpr (ev_f2_2 N hN Q (fun i x1 ag hi hQ hag => e2_r.mp (h i x1 ag hi hQ (fun z1 hl hq => e2_r.mpr (hag z1 hl hq)))) h0)
theorem l_f2_1 {α2 ρ σ : Type} {P : ρ → σ → Prop} {u : Option σ} {b : Int → α2 → (Int → α2 → Option ρ) → Option ρ} (N : Nat) (hN : N < 2147483648) (Q : Nat → α2 → Prop) (h : ∀ (i : Nat) (x2 : α2) (ag : Int → α2 → Option ρ), i ≤ N → Q i x2 → (∀ (z2 : α2), i < N → Q (i + 1) z2 → ev2 (ag ((i : Int) + 1) z2) u P) → ev2 (b (i : Int) x2 ag) u P) {x2 : α2} (h0 : Q 0 x2) : ev2 (zl2 b zF 0 x2) u P :=
  e2_l.mpr (ev_f2_1 N hN Q (fun i x2 ag hi hQ hag => e2_l.mp (h i x2 ag hi hQ (fun z2 hl hq => e2_l.mpr (hag z2 hl hq)))) h0)
theorem r_f2_1 {α2 ρ σ : Type} {P : ρ → σ → Prop} {u : Option ρ} {b : Int → α2 → (Int → α2 → Option σ) → Option σ} (N : Nat) (hN : N < 2147483648) (Q : Nat → α2 → Prop) (h : ∀ (i : Nat) (x2 : α2) (ag : Int → α2 → Option σ), i ≤ N → Q i x2 → (∀ (z2 : α2), i < N → Q (i + 1) z2 → ev2 u (ag ((i : Int) + 1) z2) P) → ev2 u (b (i : Int) x2 ag) P) {x2 : α2} (h0 : Q 0 x2) : ev2 u (zl2 b zF 0 x2) P :=
  e2_r.mpr (ev_f2_1 N hN Q (fun i x2 ag hi hQ hag => e2_r.mp (h i x2 ag hi hQ (fun z2 hl hq => e2_r.mpr (hag z2 hl hq)))) h0)
theorem l_f3_3 {α1 α2 ρ σ : Type} {P : ρ → σ → Prop} {u : Option σ} {b : α1 → α2 → Int → (α1 → α2 → Int → Option ρ) → Option ρ} (N : Nat) (hN : N < 2147483648) (Q : Nat → α1 → α2 → Prop) (h : ∀ (i : Nat) (x1 : α1) (x2 : α2) (ag : α1 → α2 → Int → Option ρ), i ≤ N → Q i x1 x2 → (∀ (z1 : α1) (z2 : α2), i < N → Q (i + 1) z1 z2 → ev2 (ag z1 z2 ((i : Int) + 1)) u P) → ev2 (b x1 x2 (i : Int) ag) u P) {x1 : α1} {x2 : α2} (h0 : Q 0 x1 x2) : ev2 (zl3 b zF x1 x2 0) u P :=
  e2_l.mpr (ev_f3_3 N hN Q (fun i x1 x2 ag hi hQ hag => e2_l.mp (h i x1 x2 ag hi hQ (fun z1 z2 hl hq => e2_l.mpr (hag z1 z2 hl hq)))) h0)
theorem r_f3_3 {α1 α2 ρ σ : Type} {P : ρ → σ → Prop} {u : Option ρ} {b : α1 → α2 → Int → (α1 → α2 → Int → Option σ) → Option σ} (N : Nat) (hN : N < 2147483648) (Q : Nat → α1 → α2 → Prop) (h : ∀ (i : Nat) (x1 : α1) (x2 : α2) (ag : α1 → α2 → Int → Option σ), i ≤ N → Q i x1 x2 → (∀ (z1 : α1) (z2 : α2), i < N → Q (i + 1) z1 z2 → ev2 u (ag z1 z2 ((i : Int) + 1)) P) → ev2 u (b x1 x2 (i : Int) ag) P) {x1 : α1} {x2 : α2} (h0 : Q 0 x1 x2) : ev2 u (zl3 b zF x1 x2 0) P :=
  e2_r.mpr (ev_f3_3 N hN Q (fun i x1 x2 ag hi hQ hag => e2_r.mp (h i x1 x2 ag hi hQ (fun z1 z2 hl hq => e2_r.mpr (hag z1 z2 hl hq)))) h0)
