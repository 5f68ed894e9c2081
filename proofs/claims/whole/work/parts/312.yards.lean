-- own text: steps, yards, meet
theorem l_b1 {α1 ρ σ : Type} {P : ρ → σ → Prop} {u : Option σ} {q : Option (α1)} {k : α1 → Option ρ} {Q : (α1) → Prop} (h : ev q Q) (hk : ∀ (x1 : α1), Q (x1) → ev2 (k x1) u P) : ev2 (zb1 q k) u P := by
  obtain ⟨r, e, h⟩ := h
  subst e
  exact hk r h
theorem l_j1 {α1 ρ σ : Type} {P : ρ → σ → Prop} {u : Option σ} {kk : α1 → Option ρ} {b : (α1 → Option ρ) → Option ρ} (J : α1 → Prop) (h1 : ∀ (x1 : α1), J x1 → ev2 (kk x1) u P) (h2 : ∀ k2 : α1 → Option ρ, (∀ (x1 : α1), J x1 → ev2 (k2 x1) u P) → ev2 (b k2) u P) : ev2 (zj1 kk b) u P := h2 kk h1
theorem l_b2 {α1 α2 ρ σ : Type} {P : ρ → σ → Prop} {u : Option σ} {q : Option (α1 × α2)} {k : α1 → α2 → Option ρ} {Q : (α1 × α2) → Prop} (h : ev q Q) (hk : ∀ (x1 : α1) (x2 : α2), Q (x1, x2) → ev2 (k x1 x2) u P) : ev2 (zb2 q k) u P := by
  obtain ⟨r, e, h⟩ := h
  subst e
  exact hk (r.1) (r.2) h
theorem l_j2 {α1 α2 ρ σ : Type} {P : ρ → σ → Prop} {u : Option σ} {kk : α1 → α2 → Option ρ} {b : (α1 → α2 → Option ρ) → Option ρ} (J : α1 → α2 → Prop) (h1 : ∀ (x1 : α1) (x2 : α2), J x1 x2 → ev2 (kk x1 x2) u P) (h2 : ∀ k2 : α1 → α2 → Option ρ, (∀ (x1 : α1) (x2 : α2), J x1 x2 → ev2 (k2 x1 x2) u P) → ev2 (b k2) u P) : ev2 (zj2 kk b) u P := h2 kk h1
theorem l_b3 {α1 α2 α3 ρ σ : Type} {P : ρ → σ → Prop} {u : Option σ} {q : Option (α1 × α2 × α3)} {k : α1 → α2 → α3 → Option ρ} {Q : (α1 × α2 × α3) → Prop} (h : ev q Q) (hk : ∀ (x1 : α1) (x2 : α2) (x3 : α3), Q (x1, x2, x3) → ev2 (k x1 x2 x3) u P) : ev2 (zb3 q k) u P := by
  obtain ⟨r, e, h⟩ := h
  subst e
  exact hk (r.1) (r.2.1) (r.2.2) h
theorem l_j3 {α1 α2 α3 ρ σ : Type} {P : ρ → σ → Prop} {u : Option σ} {kk : α1 → α2 → α3 → Option ρ} {b : (α1 → α2 → α3 → Option ρ) → Option ρ} (J : α1 → α2 → α3 → Prop) (h1 : ∀ (x1 : α1) (x2 : α2) (x3 : α3), J x1 x2 x3 → ev2 (kk x1 x2 x3) u P) (h2 : ∀ k2 : α1 → α2 → α3 → Option ρ, (∀ (x1 : α1) (x2 : α2) (x3 : α3), J x1 x2 x3 → ev2 (k2 x1 x2 x3) u P) → ev2 (b k2) u P) : ev2 (zj3 kk b) u P := h2 kk h1
theorem l_b4 {α1 α2 α3 α4 ρ σ : Type} {P : ρ → σ → Prop} {u : Option σ} {q : Option (α1 × α2 × α3 × α4)} {k : α1 → α2 → α3 → α4 → Option ρ} {Q : (α1 × α2 × α3 × α4) → Prop} (h : ev q Q) (hk : ∀ (x1 : α1) (x2 : α2) (x3 : α3) (x4 : α4), Q (x1, x2, x3, x4) → ev2 (k x1 x2 x3 x4) u P) : ev2 (zb4 q k) u P := by
  obtain ⟨r, e, h⟩ := h
  subst e
  exact hk (r.1) (r.2.1) (r.2.2.1) (r.2.2.2) h
theorem l_j4 {α1 α2 α3 α4 ρ σ : Type} {P : ρ → σ → Prop} {u : Option σ} {kk : α1 → α2 → α3 → α4 → Option ρ} {b : (α1 → α2 → α3 → α4 → Option ρ) → Option ρ} (J : α1 → α2 → α3 → α4 → Prop) (h1 : ∀ (x1 : α1) (x2 : α2) (x3 : α3) (x4 : α4), J x1 x2 x3 x4 → ev2 (kk x1 x2 x3 x4) u P) (h2 : ∀ k2 : α1 → α2 → α3 → α4 → Option ρ, (∀ (x1 : α1) (x2 : α2) (x3 : α3) (x4 : α4), J x1 x2 x3 x4 → ev2 (k2 x1 x2 x3 x4) u P) → ev2 (b k2) u P) : ev2 (zj4 kk b) u P := h2 kk h1
theorem l_b5 {α1 α2 α3 α4 α5 ρ σ : Type} {P : ρ → σ → Prop} {u : Option σ} {q : Option (α1 × α2 × α3 × α4 × α5)} {k : α1 → α2 → α3 → α4 → α5 → Option ρ} {Q : (α1 × α2 × α3 × α4 × α5) → Prop} (h : ev q Q) (hk : ∀ (x1 : α1) (x2 : α2) (x3 : α3) (x4 : α4) (x5 : α5), Q (x1, x2, x3, x4, x5) → ev2 (k x1 x2 x3 x4 x5) u P) : ev2 (zb5 q k) u P := by
  obtain ⟨r, e, h⟩ := h
  subst e
  exact hk (r.1) (r.2.1) (r.2.2.1) (r.2.2.2.1) (r.2.2.2.2) h
theorem l_j5 {α1 α2 α3 α4 α5 ρ σ : Type} {P : ρ → σ → Prop} {u : Option σ} {kk : α1 → α2 → α3 → α4 → α5 → Option ρ} {b : (α1 → α2 → α3 → α4 → α5 → Option ρ) → Option ρ} (J : α1 → α2 → α3 → α4 → α5 → Prop) (h1 : ∀ (x1 : α1) (x2 : α2) (x3 : α3) (x4 : α4) (x5 : α5), J x1 x2 x3 x4 x5 → ev2 (kk x1 x2 x3 x4 x5) u P) (h2 : ∀ k2 : α1 → α2 → α3 → α4 → α5 → Option ρ, (∀ (x1 : α1) (x2 : α2) (x3 : α3) (x4 : α4) (x5 : α5), J x1 x2 x3 x4 x5 → ev2 (k2 x1 x2 x3 x4 x5) u P) → ev2 (b k2) u P) : ev2 (zj5 kk b) u P := h2 kk h1
theorem l_b6 {α1 α2 α3 α4 α5 α6 ρ σ : Type} {P : ρ → σ → Prop} {u : Option σ} {q : Option (α1 × α2 × α3 × α4 × α5 × α6)} {k : α1 → α2 → α3 → α4 → α5 → α6 → Option ρ} {Q : (α1 × α2 × α3 × α4 × α5 × α6) → Prop} (h : ev q Q) (hk : ∀ (x1 : α1) (x2 : α2) (x3 : α3) (x4 : α4) (x5 : α5) (x6 : α6), Q (x1, x2, x3, x4, x5, x6) → ev2 (k x1 x2 x3 x4 x5 x6) u P) : ev2 (zb6 q k) u P := by
  obtain ⟨r, e, h⟩ := h
  subst e
  exact hk (r.1) (r.2.1) (r.2.2.1) (r.2.2.2.1) (r.2.2.2.2.1) (r.2.2.2.2.2) h
theorem l_j6 {α1 α2 α3 α4 α5 α6 ρ σ : Type} {P : ρ → σ → Prop} {u : Option σ} {kk : α1 → α2 → α3 → α4 → α5 → α6 → Option ρ} {b : (α1 → α2 → α3 → α4 → α5 → α6 → Option ρ) → Option ρ} (J : α1 → α2 → α3 → α4 → α5 → α6 → Prop) (h1 : ∀ (x1 : α1) (x2 : α2) (x3 : α3) (x4 : α4) (x5 : α5) (x6 : α6), J x1 x2 x3 x4 x5 x6 → ev2 (kk x1 x2 x3 x4 x5 x6) u P) (h2 : ∀ k2 : α1 → α2 → α3 → α4 → α5 → α6 → Option ρ, (∀ (x1 : α1) (x2 : α2) (x3 : α3) (x4 : α4) (x5 : α5) (x6 : α6), J x1 x2 x3 x4 x5 x6 → ev2 (k2 x1 x2 x3 x4 x5 x6) u P) → ev2 (b k2) u P) : ev2 (zj6 kk b) u P := h2 kk h1
theorem l_b7 {α1 α2 α3 α4 α5 α6 α7 ρ σ : Type} {P : ρ → σ → Prop} {u : Option σ} {q : Option (α1 × α2 × α3 × α4 × α5 × α6 × α7)} {k : α1 → α2 → α3 → α4 → α5 → α6 → α7 → Option ρ} {Q : (α1 × α2 × α3 × α4 × α5 × α6 × α7) → Prop} (h : ev q Q) (hk : ∀ (x1 : α1) (x2 : α2) (x3 : α3) (x4 : α4) (x5 : α5) (x6 : α6) (x7 : α7), Q (x1, x2, x3, x4, x5, x6, x7) → ev2 (k x1 x2 x3 x4 x5 x6 x7) u P) : ev2 (zb7 q k) u P := by
  obtain ⟨r, e, h⟩ := h
  subst e
  exact hk (r.1) (r.2.1) (r.2.2.1) (r.2.2.2.1) (r.2.2.2.2.1) (r.2.2.2.2.2.1) (r.2.2.2.2.2.2) h
theorem l_j7 {α1 α2 α3 α4 α5 α6 α7 ρ σ : Type} {P : ρ → σ → Prop} {u : Option σ} {kk : α1 → α2 → α3 → α4 → α5 → α6 → α7 → Option ρ} {b : (α1 → α2 → α3 → α4 → α5 → α6 → α7 → Option ρ) → Option ρ} (J : α1 → α2 → α3 → α4 → α5 → α6 → α7 → Prop) (h1 : ∀ (x1 : α1) (x2 : α2) (x3 : α3) (x4 : α4) (x5 : α5) (x6 : α6) (x7 : α7), J x1 x2 x3 x4 x5 x6 x7 → ev2 (kk x1 x2 x3 x4 x5 x6 x7) u P) (h2 : ∀ k2 : α1 → α2 → α3 → α4 → α5 → α6 → α7 → Option ρ, (∀ (x1 : α1) (x2 : α2) (x3 : α3) (x4 : α4) (x5 : α5) (x6 : α6) (x7 : α7), J x1 x2 x3 x4 x5 x6 x7 → ev2 (k2 x1 x2 x3 x4 x5 x6 x7) u P) → ev2 (b k2) u P) : ev2 (zj7 kk b) u P := h2 kk h1
theorem l_b8 {α1 α2 α3 α4 α5 α6 α7 α8 ρ σ : Type} {P : ρ → σ → Prop} {u : Option σ} {q : Option (α1 × α2 × α3 × α4 × α5 × α6 × α7 × α8)} {k : α1 → α2 → α3 → α4 → α5 → α6 → α7 → α8 → Option ρ} {Q : (α1 × α2 × α3 × α4 × α5 × α6 × α7 × α8) → Prop} (h : ev q Q) (hk : ∀ (x1 : α1) (x2 : α2) (x3 : α3) (x4 : α4) (x5 : α5) (x6 : α6) (x7 : α7) (x8 : α8), Q (x1, x2, x3, x4, x5, x6, x7, x8) → ev2 (k x1 x2 x3 x4 x5 x6 x7 x8) u P) : ev2 (zb8 q k) u P := by
  obtain ⟨r, e, h⟩ := h
  subst e
  exact hk (r.1) (r.2.1) (r.2.2.1) (r.2.2.2.1) (r.2.2.2.2.1) (r.2.2.2.2.2.1) (r.2.2.2.2.2.2.1) (r.2.2.2.2.2.2.2) h
theorem l_j8 {α1 α2 α3 α4 α5 α6 α7 α8 ρ σ : Type} {P : ρ → σ → Prop} {u : Option σ} {kk : α1 → α2 → α3 → α4 → α5 → α6 → α7 → α8 → Option ρ} {b : (α1 → α2 → α3 → α4 → α5 → α6 → α7 → α8 → Option ρ) → Option ρ} (J : α1 → α2 → α3 → α4 → α5 → α6 → α7 → α8 → Prop) (h1 : ∀ (x1 : α1) (x2 : α2) (x3 : α3) (x4 : α4) (x5 : α5) (x6 : α6) (x7 : α7) (x8 : α8), J x1 x2 x3 x4 x5 x6 x7 x8 → ev2 (kk x1 x2 x3 x4 x5 x6 x7 x8) u P) (h2 : ∀ k2 : α1 → α2 → α3 → α4 → α5 → α6 → α7 → α8 → Option ρ, (∀ (x1 : α1) (x2 : α2) (x3 : α3) (x4 : α4) (x5 : α5) (x6 : α6) (x7 : α7) (x8 : α8), J x1 x2 x3 x4 x5 x6 x7 x8 → ev2 (k2 x1 x2 x3 x4 x5 x6 x7 x8) u P) → ev2 (b k2) u P) : ev2 (zj8 kk b) u P := h2 kk h1
theorem l_b9 {α1 α2 α3 α4 α5 α6 α7 α8 α9 ρ σ : Type} {P : ρ → σ → Prop} {u : Option σ} {q : Option (α1 × α2 × α3 × α4 × α5 × α6 × α7 × α8 × α9)} {k : α1 → α2 → α3 → α4 → α5 → α6 → α7 → α8 → α9 → Option ρ} {Q : (α1 × α2 × α3 × α4 × α5 × α6 × α7 × α8 × α9) → Prop} (h : ev q Q) (hk : ∀ (x1 : α1) (x2 : α2) (x3 : α3) (x4 : α4) (x5 : α5) (x6 : α6) (x7 : α7) (x8 : α8) (x9 : α9), Q (x1, x2, x3, x4, x5, x6, x7, x8, x9) → ev2 (k x1 x2 x3 x4 x5 x6 x7 x8 x9) u P) : ev2 (zb9 q k) u P := by
  obtain ⟨r, e, h⟩ := h
  subst e
  exact hk (r.1) (r.2.1) (r.2.2.1) (r.2.2.2.1) (r.2.2.2.2.1) (r.2.2.2.2.2.1) (r.2.2.2.2.2.2.1) (r.2.2.2.2.2.2.2.1) (r.2.2.2.2.2.2.2.2) h
theorem l_j9 {α1 α2 α3 α4 α5 α6 α7 α8 α9 ρ σ : Type} {P : ρ → σ → Prop} {u : Option σ} {kk : α1 → α2 → α3 → α4 → α5 → α6 → α7 → α8 → α9 → Option ρ} {b : (α1 → α2 → α3 → α4 → α5 → α6 → α7 → α8 → α9 → Option ρ) → Option ρ} (J : α1 → α2 → α3 → α4 → α5 → α6 → α7 → α8 → α9 → Prop) (h1 : ∀ (x1 : α1) (x2 : α2) (x3 : α3) (x4 : α4) (x5 : α5) (x6 : α6) (x7 : α7) (x8 : α8) (x9 : α9), J x1 x2 x3 x4 x5 x6 x7 x8 x9 → ev2 (kk x1 x2 x3 x4 x5 x6 x7 x8 x9) u P) (h2 : ∀ k2 : α1 → α2 → α3 → α4 → α5 → α6 → α7 → α8 → α9 → Option ρ, (∀ (x1 : α1) (x2 : α2) (x3 : α3) (x4 : α4) (x5 : α5) (x6 : α6) (x7 : α7) (x8 : α8) (x9 : α9), J x1 x2 x3 x4 x5 x6 x7 x8 x9 → ev2 (k2 x1 x2 x3 x4 x5 x6 x7 x8 x9) u P) → ev2 (b k2) u P) : ev2 (zj9 kk b) u P := h2 kk h1
theorem r_b1 {α1 ρ σ : Type} {P : ρ → σ → Prop} {u : Option ρ} {q : Option (α1)} {k : α1 → Option σ} {Q : (α1) → Prop} (h : ev q Q) (hk : ∀ (x1 : α1), Q (x1) → ev2 u (k x1) P) : ev2 u (zb1 q k) P := by
  obtain ⟨r, e, h⟩ := h
  subst e
  exact hk r h
theorem r_j1 {α1 ρ σ : Type} {P : ρ → σ → Prop} {u : Option ρ} {kk : α1 → Option σ} {b : (α1 → Option σ) → Option σ} (J : α1 → Prop) (h1 : ∀ (x1 : α1), J x1 → ev2 u (kk x1) P) (h2 : ∀ k2 : α1 → Option σ, (∀ (x1 : α1), J x1 → ev2 u (k2 x1) P) → ev2 u (b k2) P) : ev2 u (zj1 kk b) P := h2 kk h1
theorem r_b2 {α1 α2 ρ σ : Type} {P : ρ → σ → Prop} {u : Option ρ} {q : Option (α1 × α2)} {k : α1 → α2 → Option σ} {Q : (α1 × α2) → Prop} (h : ev q Q) (hk : ∀ (x1 : α1) (x2 : α2), Q (x1, x2) → ev2 u (k x1 x2) P) : ev2 u (zb2 q k) P := by
  obtain ⟨r, e, h⟩ := h
  subst e
  exact hk (r.1) (r.2) h
theorem r_j2 {α1 α2 ρ σ : Type} {P : ρ → σ → Prop} {u : Option ρ} {kk : α1 → α2 → Option σ} {b : (α1 → α2 → Option σ) → Option σ} (J : α1 → α2 → Prop) (h1 : ∀ (x1 : α1) (x2 : α2), J x1 x2 → ev2 u (kk x1 x2) P) (h2 : ∀ k2 : α1 → α2 → Option σ, (∀ (x1 : α1) (x2 : α2), J x1 x2 → ev2 u (k2 x1 x2) P) → ev2 u (b k2) P) : ev2 u (zj2 kk b) P := h2 kk h1
theorem r_b3 {α1 α2 α3 ρ σ : Type} {P : ρ → σ → Prop} {u : Option ρ} {q : Option (α1 × α2 × α3)} {k : α1 → α2 → α3 → Option σ} {Q : (α1 × α2 × α3) → Prop} (h : ev q Q) (hk : ∀ (x1 : α1) (x2 : α2) (x3 : α3), Q (x1, x2, x3) → ev2 u (k x1 x2 x3) P) : ev2 u (zb3 q k) P := by
  obtain ⟨r, e, h⟩ := h
  subst e
  exact hk (r.1) (r.2.1) (r.2.2) h
theorem r_j3 {α1 α2 α3 ρ σ : Type} {P : ρ → σ → Prop} {u : Option ρ} {kk : α1 → α2 → α3 → Option σ} {b : (α1 → α2 → α3 → Option σ) → Option σ} (J : α1 → α2 → α3 → Prop) (h1 : ∀ (x1 : α1) (x2 : α2) (x3 : α3), J x1 x2 x3 → ev2 u (kk x1 x2 x3) P) (h2 : ∀ k2 : α1 → α2 → α3 → Option σ, (∀ (x1 : α1) (x2 : α2) (x3 : α3), J x1 x2 x3 → ev2 u (k2 x1 x2 x3) P) → ev2 u (b k2) P) : ev2 u (zj3 kk b) P := h2 kk h1
theorem r_b4 {α1 α2 α3 α4 ρ σ : Type} {P : ρ → σ → Prop} {u : Option ρ} {q : Option (α1 × α2 × α3 × α4)} {k : α1 → α2 → α3 → α4 → Option σ} {Q : (α1 × α2 × α3 × α4) → Prop} (h : ev q Q) (hk : ∀ (x1 : α1) (x2 : α2) (x3 : α3) (x4 : α4), Q (x1, x2, x3, x4) → ev2 u (k x1 x2 x3 x4) P) : ev2 u (zb4 q k) P := by
  obtain ⟨r, e, h⟩ := h
  subst e
  exact hk (r.1) (r.2.1) (r.2.2.1) (r.2.2.2) h
theorem r_j4 {α1 α2 α3 α4 ρ σ : Type} {P : ρ → σ → Prop} {u : Option ρ} {kk : α1 → α2 → α3 → α4 → Option σ} {b : (α1 → α2 → α3 → α4 → Option σ) → Option σ} (J : α1 → α2 → α3 → α4 → Prop) (h1 : ∀ (x1 : α1) (x2 : α2) (x3 : α3) (x4 : α4), J x1 x2 x3 x4 → ev2 u (kk x1 x2 x3 x4) P) (h2 : ∀ k2 : α1 → α2 → α3 → α4 → Option σ, (∀ (x1 : α1) (x2 : α2) (x3 : α3) (x4 : α4), J x1 x2 x3 x4 → ev2 u (k2 x1 x2 x3 x4) P) → ev2 u (b k2) P) : ev2 u (zj4 kk b) P := h2 kk h1
theorem r_b5 {α1 α2 α3 α4 α5 ρ σ : Type} {P : ρ → σ → Prop} {u : Option ρ} {q : Option (α1 × α2 × α3 × α4 × α5)} {k : α1 → α2 → α3 → α4 → α5 → Option σ} {Q : (α1 × α2 × α3 × α4 × α5) → Prop} (h : ev q Q) (hk : ∀ (x1 : α1) (x2 : α2) (x3 : α3) (x4 : α4) (x5 : α5), Q (x1, x2, x3, x4, x5) → ev2 u (k x1 x2 x3 x4 x5) P) : ev2 u (zb5 q k) P := by
  obtain ⟨r, e, h⟩ := h
  subst e
  exact hk (r.1) (r.2.1) (r.2.2.1) (r.2.2.2.1) (r.2.2.2.2) h
theorem r_j5 {α1 α2 α3 α4 α5 ρ σ : Type} {P : ρ → σ → Prop} {u : Option ρ} {kk : α1 → α2 → α3 → α4 → α5 → Option σ} {b : (α1 → α2 → α3 → α4 → α5 → Option σ) → Option σ} (J : α1 → α2 → α3 → α4 → α5 → Prop) (h1 : ∀ (x1 : α1) (x2 : α2) (x3 : α3) (x4 : α4) (x5 : α5), J x1 x2 x3 x4 x5 → ev2 u (kk x1 x2 x3 x4 x5) P) (h2 : ∀ k2 : α1 → α2 → α3 → α4 → α5 → Option σ, (∀ (x1 : α1) (x2 : α2) (x3 : α3) (x4 : α4) (x5 : α5), J x1 x2 x3 x4 x5 → ev2 u (k2 x1 x2 x3 x4 x5) P) → ev2 u (b k2) P) : ev2 u (zj5 kk b) P := h2 kk h1
theorem r_b6 {α1 α2 α3 α4 α5 α6 ρ σ : Type} {P : ρ → σ → Prop} {u : Option ρ} {q : Option (α1 × α2 × α3 × α4 × α5 × α6)} {k : α1 → α2 → α3 → α4 → α5 → α6 → Option σ} {Q : (α1 × α2 × α3 × α4 × α5 × α6) → Prop} (h : ev q Q) (hk : ∀ (x1 : α1) (x2 : α2) (x3 : α3) (x4 : α4) (x5 : α5) (x6 : α6), Q (x1, x2, x3, x4, x5, x6) → ev2 u (k x1 x2 x3 x4 x5 x6) P) : ev2 u (zb6 q k) P := by
  obtain ⟨r, e, h⟩ := h
  subst e
  exact hk (r.1) (r.2.1) (r.2.2.1) (r.2.2.2.1) (r.2.2.2.2.1) (r.2.2.2.2.2) h
theorem r_j6 {α1 α2 α3 α4 α5 α6 ρ σ : Type} {P : ρ → σ → Prop} {u : Option ρ} {kk : α1 → α2 → α3 → α4 → α5 → α6 → Option σ} {b : (α1 → α2 → α3 → α4 → α5 → α6 → Option σ) → Option σ} (J : α1 → α2 → α3 → α4 → α5 → α6 → Prop) (h1 : ∀ (x1 : α1) (x2 : α2) (x3 : α3) (x4 : α4) (x5 : α5) (x6 : α6), J x1 x2 x3 x4 x5 x6 → ev2 u (kk x1 x2 x3 x4 x5 x6) P) (h2 : ∀ k2 : α1 → α2 → α3 → α4 → α5 → α6 → Option σ, (∀ (x1 : α1) (x2 : α2) (x3 : α3) (x4 : α4) (x5 : α5) (x6 : α6), J x1 x2 x3 x4 x5 x6 → ev2 u (k2 x1 x2 x3 x4 x5 x6) P) → ev2 u (b k2) P) : ev2 u (zj6 kk b) P := h2 kk h1
theorem r_b7 {α1 α2 α3 α4 α5 α6 α7 ρ σ : Type} {P : ρ → σ → Prop} {u : Option ρ} {q : Option (α1 × α2 × α3 × α4 × α5 × α6 × α7)} {k : α1 → α2 → α3 → α4 → α5 → α6 → α7 → Option σ} {Q : (α1 × α2 × α3 × α4 × α5 × α6 × α7) → Prop} (h : ev q Q) (hk : ∀ (x1 : α1) (x2 : α2) (x3 : α3) (x4 : α4) (x5 : α5) (x6 : α6) (x7 : α7), Q (x1, x2, x3, x4, x5, x6, x7) → ev2 u (k x1 x2 x3 x4 x5 x6 x7) P) : ev2 u (zb7 q k) P := by
  obtain ⟨r, e, h⟩ := h
  subst e
  exact hk (r.1) (r.2.1) (r.2.2.1) (r.2.2.2.1) (r.2.2.2.2.1) (r.2.2.2.2.2.1) (r.2.2.2.2.2.2) h
theorem r_j7 {α1 α2 α3 α4 α5 α6 α7 ρ σ : Type} {P : ρ → σ → Prop} {u : Option ρ} {kk : α1 → α2 → α3 → α4 → α5 → α6 → α7 → Option σ} {b : (α1 → α2 → α3 → α4 → α5 → α6 → α7 → Option σ) → Option σ} (J : α1 → α2 → α3 → α4 → α5 → α6 → α7 → Prop) (h1 : ∀ (x1 : α1) (x2 : α2) (x3 : α3) (x4 : α4) (x5 : α5) (x6 : α6) (x7 : α7), J x1 x2 x3 x4 x5 x6 x7 → ev2 u (kk x1 x2 x3 x4 x5 x6 x7) P) (h2 : ∀ k2 : α1 → α2 → α3 → α4 → α5 → α6 → α7 → Option σ, (∀ (x1 : α1) (x2 : α2) (x3 : α3) (x4 : α4) (x5 : α5) (x6 : α6) (x7 : α7), J x1 x2 x3 x4 x5 x6 x7 → ev2 u (k2 x1 x2 x3 x4 x5 x6 x7) P) → ev2 u (b k2) P) : ev2 u (zj7 kk b) P := h2 kk h1
theorem r_b8 {α1 α2 α3 α4 α5 α6 α7 α8 ρ σ : Type} {P : ρ → σ → Prop} {u : Option ρ} {q : Option (α1 × α2 × α3 × α4 × α5 × α6 × α7 × α8)} {k : α1 → α2 → α3 → α4 → α5 → α6 → α7 → α8 → Option σ} {Q : (α1 × α2 × α3 × α4 × α5 × α6 × α7 × α8) → Prop} (h : ev q Q) (hk : ∀ (x1 : α1) (x2 : α2) (x3 : α3) (x4 : α4) (x5 : α5) (x6 : α6) (x7 : α7) (x8 : α8), Q (x1, x2, x3, x4, x5, x6, x7, x8) → ev2 u (k x1 x2 x3 x4 x5 x6 x7 x8) P) : ev2 u (zb8 q k) P := by
  obtain ⟨r, e, h⟩ := h
  subst e
  exact hk (r.1) (r.2.1) (r.2.2.1) (r.2.2.2.1) (r.2.2.2.2.1) (r.2.2.2.2.2.1) (r.2.2.2.2.2.2.1) (r.2.2.2.2.2.2.2) h
theorem r_j8 {α1 α2 α3 α4 α5 α6 α7 α8 ρ σ : Type} {P : ρ → σ → Prop} {u : Option ρ} {kk : α1 → α2 → α3 → α4 → α5 → α6 → α7 → α8 → Option σ} {b : (α1 → α2 → α3 → α4 → α5 → α6 → α7 → α8 → Option σ) → Option σ} (J : α1 → α2 → α3 → α4 → α5 → α6 → α7 → α8 → Prop) (h1 : ∀ (x1 : α1) (x2 : α2) (x3 : α3) (x4 : α4) (x5 : α5) (x6 : α6) (x7 : α7) (x8 : α8), J x1 x2 x3 x4 x5 x6 x7 x8 → ev2 u (kk x1 x2 x3 x4 x5 x6 x7 x8) P) (h2 : ∀ k2 : α1 → α2 → α3 → α4 → α5 → α6 → α7 → α8 → Option σ, (∀ (x1 : α1) (x2 : α2) (x3 : α3) (x4 : α4) (x5 : α5) (x6 : α6) (x7 : α7) (x8 : α8), J x1 x2 x3 x4 x5 x6 x7 x8 → ev2 u (k2 x1 x2 x3 x4 x5 x6 x7 x8) P) → ev2 u (b k2) P) : ev2 u (zj8 kk b) P := h2 kk h1
theorem r_b9 {α1 α2 α3 α4 α5 α6 α7 α8 α9 ρ σ : Type} {P : ρ → σ → Prop} {u : Option ρ} {q : Option (α1 × α2 × α3 × α4 × α5 × α6 × α7 × α8 × α9)} {k : α1 → α2 → α3 → α4 → α5 → α6 → α7 → α8 → α9 → Option σ} {Q : (α1 × α2 × α3 × α4 × α5 × α6 × α7 × α8 × α9) → Prop} (h : ev q Q) (hk : ∀ (x1 : α1) (x2 : α2) (x3 : α3) (x4 : α4) (x5 : α5) (x6 : α6) (x7 : α7) (x8 : α8) (x9 : α9), Q (x1, x2, x3, x4, x5, x6, x7, x8, x9) → ev2 u (k x1 x2 x3 x4 x5 x6 x7 x8 x9) P) : ev2 u (zb9 q k) P := by
  obtain ⟨r, e, h⟩ := h
  subst e
  exact hk (r.1) (r.2.1) (r.2.2.1) (r.2.2.2.1) (r.2.2.2.2.1) (r.2.2.2.2.2.1) (r.2.2.2.2.2.2.1) (r.2.2.2.2.2.2.2.1) (r.2.2.2.2.2.2.2.2) h
theorem r_j9 {α1 α2 α3 α4 α5 α6 α7 α8 α9 ρ σ : Type} {P : ρ → σ → Prop} {u : Option ρ} {kk : α1 → α2 → α3 → α4 → α5 → α6 → α7 → α8 → α9 → Option σ} {b : (α1 → α2 → α3 → α4 → α5 → α6 → α7 → α8 → α9 → Option σ) → Option σ} (J : α1 → α2 → α3 → α4 → α5 → α6 → α7 → α8 → α9 → Prop) (h1 : ∀ (x1 : α1) (x2 : α2) (x3 : α3) (x4 : α4) (x5 : α5) (x6 : α6) (x7 : α7) (x8 : α8) (x9 : α9), J x1 x2 x3 x4 x5 x6 x7 x8 x9 → ev2 u (kk x1 x2 x3 x4 x5 x6 x7 x8 x9) P) (h2 : ∀ k2 : α1 → α2 → α3 → α4 → α5 → α6 → α7 → α8 → α9 → Option σ, (∀ (x1 : α1) (x2 : α2) (x3 : α3) (x4 : α4) (x5 : α5) (x6 : α6) (x7 : α7) (x8 : α8) (x9 : α9), J x1 x2 x3 x4 x5 x6 x7 x8 x9 → ev2 u (k2 x1 x2 x3 x4 x5 x6 x7 x8 x9) P) → ev2 u (b k2) P) : ev2 u (zj9 kk b) P := h2 kk h1
theorem bs_eq {K : Nat → Int} {A : Nat → Prop} {far f : Nat → Int} (h1 : bExact K A far) (h2 : sExact K A f) {t : Nat} (ht : t < 36) : (far t = -9 ∧ f t = 1000000000) ∨ (far t = f t ∧ 0 ≤ f t ∧ f t ≤ 36 ∧ zcan (K t)) := by
  rcases h1 t ht with ⟨a1, a2⟩ | ⟨n, a1, a2, a3⟩
  · rcases h2 t ht with ⟨b1, _⟩ | ⟨m, _, _, b3⟩
    · exact Or.inl ⟨a1, b1⟩
    · exact absurd b3.1 (a2 m)
  · rcases h2 t ht with ⟨_, b2⟩ | ⟨m, b1, _, b3⟩
    · exact absurd a3.1 (b2 n)
    · have := Dist_one a3 b3
      subst this
      exact Or.inr ⟨by omega, by omega, by omega, (Wk_can a3.1).2⟩
theorem e_stepsTo {far : Nat → Int} {q : Nat} (hq : q < 36) : g_Reach_stepsTo far (q : Int) = some (far q) := by
  unfold g_Reach_stepsTo
  rw [zb1_t (e_atN (by decide) hq)]
theorem e_orNone {v : Int} (hv : zr v) : g_M_orNone v = some (if v < 1000000000 then v else -9) := by
  unfold g_M_orNone
  rw [zg_t hv]
  by_cases h : v < 1000000000
  · rw [if_pos h, if_pos h]
  · rw [if_neg h, if_neg h]
theorem m_steps {K s ra rb : Nat → Int} {a b : Int} (c : Int) (come far f : Nat → Int) (hK : zK K) (hs : zR s K) (hr : iRef ra rb) (ha : zr a) (hb : zr b) : ev (g_X_steps c come far ra K a b) (fun x => ev (g_M_steps rb s f a b) (fun y => x.1 = y.1 ∧ iRef x.2.2.2.2 y.2.1)) := by
  unfold g_X_steps g_M_steps
  by_cases h : 0 ≤ a ∧ a < 36
  case neg =>
    repeat' (first
    | with_reducible refine ev_g (by omega) ?_
    | with_reducible refine ev_n ?_
    | with_reducible refine ev_i1 ?_
    | with_reducible refine ev_i2 ?_
    | with_reducible refine ev_i3 ?_
    | with_reducible refine ev_i4 ?_
    | with_reducible refine ev_c2 (er_1 _) ?_
    | with_reducible refine ev_c2 (er_2 _) ?_
    | with_reducible refine ev_c2 (er_3 _) ?_
    | with_reducible refine ev_c2 (er_4 _) ?_
    | with_reducible refine ev_c2 (er_5 _) ?_
    | with_reducible refine ev_c2 (er_6 _) ?_
    | with_reducible refine ev_c2 (en_1 _) ?_
    | with_reducible refine ev_c2 (en_2 _) ?_
    | with_reducible refine ev_c2 (en_3 _) ?_
    | with_reducible refine ev_c2 (en_4 _) ?_
    | with_reducible refine ev_c2 (en_5 _) ?_
    | with_reducible refine ev_c2 (en_6 _) ?_
    | with_reducible refine ev_c1 (e_sqF (by omega) (by omega)) ?_
    | with_reducible refine ev_c1 (e_sqT (by omega) (by omega)) ?_
    | with_reducible refine ev_c1 (e_MsqF (by omega) (by omega)) ?_
    | with_reducible refine ev_c1 (e_MsqT (by omega) (by omega)) ?_
    | with_reducible refine ev_c1 (e_inT (by omega) (by omega) (by omega) (by omega)) ?_
    | with_reducible refine ev_c1 (e_inF (by omega) (by omega) (by omega) (by omega)) ?_
    | with_reducible refine ev_t (by omega) ?_
    | with_reducible refine ev_f (by omega) ?_
    | with_reducible refine ev_if (fun _ => ?_) (fun _ => ?_)
    | with_reducible refine ev_some ?_)
    all_goals exact ⟨rfl, iRef_up hr _ (by decide)⟩
  by_cases h2 : 0 ≤ b ∧ b < 36
  case neg =>
    repeat' (first
    | with_reducible refine ev_g (by omega) ?_
    | with_reducible refine ev_n ?_
    | with_reducible refine ev_i1 ?_
    | with_reducible refine ev_i2 ?_
    | with_reducible refine ev_i3 ?_
    | with_reducible refine ev_i4 ?_
    | with_reducible refine ev_c2 (er_1 _) ?_
    | with_reducible refine ev_c2 (er_2 _) ?_
    | with_reducible refine ev_c2 (er_3 _) ?_
    | with_reducible refine ev_c2 (er_4 _) ?_
    | with_reducible refine ev_c2 (er_5 _) ?_
    | with_reducible refine ev_c2 (er_6 _) ?_
    | with_reducible refine ev_c2 (en_1 _) ?_
    | with_reducible refine ev_c2 (en_2 _) ?_
    | with_reducible refine ev_c2 (en_3 _) ?_
    | with_reducible refine ev_c2 (en_4 _) ?_
    | with_reducible refine ev_c2 (en_5 _) ?_
    | with_reducible refine ev_c2 (en_6 _) ?_
    | with_reducible refine ev_c1 (e_sqF (by omega) (by omega)) ?_
    | with_reducible refine ev_c1 (e_sqT (by omega) (by omega)) ?_
    | with_reducible refine ev_c1 (e_MsqF (by omega) (by omega)) ?_
    | with_reducible refine ev_c1 (e_MsqT (by omega) (by omega)) ?_
    | with_reducible refine ev_c1 (e_inT (by omega) (by omega) (by omega) (by omega)) ?_
    | with_reducible refine ev_c1 (e_inF (by omega) (by omega) (by omega) (by omega)) ?_
    | with_reducible refine ev_t (by omega) ?_
    | with_reducible refine ev_f (by omega) ?_
    | with_reducible refine ev_if (fun _ => ?_) (fun _ => ?_)
    | with_reducible refine ev_some ?_)
    all_goals exact ⟨rfl, iRef_up hr _ (by decide)⟩
  obtain ⟨q, rfl⟩ := Int.eq_ofNat_of_zero_le h.1
  obtain ⟨t, rfl⟩ := Int.eq_ofNat_of_zero_le h2.1
  have hq : q < 36 := by omega
  have ht : t < 36 := by omega
  refine ev_c1 (e_sqT ha h) (ev_i1 (ev_g (by omega) (ev_f (by decide) (ev_c1 (e_sqT hb h2) (ev_g (by omega) (ev_f (by decide) (ev_b3 (e_spreadFrom hK c come far hq) (fun c1 come1 far1 hx => ev_c1 (e_stepsTo ht) (ev_some ?_)))))))))
  have hx : bExact K (fun t => t = q) far1 := hx
  refine ev_c1 (e_MsqT ha h) (ev_i1 (ev_g (by omega) (ev_f (by decide) (ev_c1 (e_MsqT hb h2) (ev_g (by omega) (ev_f (by decide) (ev_b1 (e_stepsAll hs hK f hq) (fun f1 hy => ev_g (by omega) ?_))))))))
  have e := bs_eq hx hy ht
  rw [Int.toNat_natCast]
  refine ev_c1 (e_orNone (by omega)) (ev_some ⟨?_, hr⟩)
  show far1 t = if f1 t < 1000000000 then f1 t else -9
  rcases e with e | e
  · rw [if_neg (by omega)]; omega
  · rw [if_pos (by omega)]; omega
def zYd (K : Nat → Int) (q : Nat) : Prop := ztn (K q) ∧ (0 ≤ zN K q 0 ∨ 0 ≤ zN K q 3) ∧ (0 ≤ zN K q 1 ∨ 0 ≤ zN K q 2)
theorem e_yard {K : Nat → Int} (hK : zK K) {q : Nat} (hq : q < 36) : ev (g_Town_isYardCorner K (q : Int)) (fun r => (r = 1 ∧ zYd K q) ∨ (r = 0 ∧ ¬ zYd K q)) := by
  have r0 := zN_rng (K := K) (w := 0) hq
  have r1 := zN_rng (K := K) (w := 1) hq
  have r2 := zN_rng (K := K) (w := 2) hq
  have r3 := zN_rng (K := K) (w := 3) hq
  have n0 := e_next (w := 0) hK hq (by decide)
  have n1 := e_next (w := 1) hK hq (by decide)
  have n2 := e_next (w := 2) hK hq (by decide)
  have n3 := e_next (w := 3) hK hq (by decide)
  have last : ∀ s3 s6 : Int, (s3 = 0 ∨ s3 = 1) → (s6 = 0 ∨ s6 = 1) → ((s3 = 1) ↔ (0 ≤ zN K q 0 ∨ 0 ≤ zN K q 3)) → ((s6 = 1) ↔ (0 ≤ zN K q 1 ∨ 0 ≤ zN K q 2)) → ev (zg (zr s3) <| if s3 = (0 : Int) then (some (0 : Int)) else (zg (zr s6) <| if s6 = (0 : Int) then (some (0 : Int)) else (zb1 (g_Town_turnsAreCorners K (q : Int)) fun (r9 : Int) => zg (zr r9) <| if r9 = (0 : Int) then (some (0 : Int)) else (some (1 : Int))))) (fun r => (r = 1 ∧ zYd K q) ∨ (r = 0 ∧ ¬ zYd K q)) := by
    intro s3 s6 h3 h6 e3 e6
    refine ev_g (by omega) (ev_if (fun h => ev_some (Or.inr ⟨rfl, fun y => by have := e3.mpr y.2.1; omega⟩)) (fun h => ev_g (by omega) (ev_if (fun h9 => ev_some (Or.inr ⟨rfl, fun y => by have := e6.mpr y.2.2; omega⟩)) (fun h9 => ev_c1 (e_turns hK hq) ?_))))
    by_cases ht : ztn (K q)
    · rw [if_pos ht]
      exact ev_g (by omega) (ev_f (by decide) (ev_some (Or.inl ⟨rfl, ht, e3.mp (by omega), e6.mp (by omega)⟩)))
    · rw [if_neg ht]
      exact ev_g (by omega) (ev_t rfl (ev_some (Or.inr ⟨rfl, fun y => ht y.1⟩)))
  unfold g_Town_isYardCorner
  refine ev_c1 n0 (ev_j1 (fun s3 => (s3 = 0 ∨ s3 = 1) ∧ ((s3 = 1) ↔ (0 ≤ zN K q 0 ∨ 0 ≤ zN K q 3))) (fun s3 h3 => ?_) (fun k hk => ?_))
  · refine ev_c1 n1 (ev_j1 (fun s6 => (s6 = 0 ∨ s6 = 1) ∧ ((s6 = 1) ↔ (0 ≤ zN K q 1 ∨ 0 ≤ zN K q 2))) (fun s6 h6 => last s3 s6 h3.1 h6.1 h3.2 h6.2) (fun k hk => ?_))
    refine ev_i1 (ev_g (by omega) (ev_if (fun h => ev_c1 n2 (ev_g (by omega) (ev_if (fun h9 => hk 0 ⟨by omega, by omega⟩) (fun h9 => hk 1 ⟨by omega, by omega⟩)))) (fun h => hk 1 ⟨by omega, by omega⟩)))
  · refine ev_i1 (ev_g (by omega) (ev_if (fun h => ev_c1 n3 (ev_g (by omega) (ev_if (fun h9 => hk 0 ⟨by omega, by omega⟩) (fun h9 => hk 1 ⟨by omega, by omega⟩)))) (fun h => hk 1 ⟨by omega, by omega⟩)))
theorem e_M_yard {s K : Nat → Int} (hs : zR s K) (hK : zK K) {q : Nat} (hq : q < 36) (hc : zcan (K q)) : ev (g_M_isYard s (q : Int)) (fun r => (r = 1 ∧ zYd K q) ∨ (r = 0 ∧ ¬ zYd K q)) := by
  have gn : ∀ w : Nat, w < 4 → ∃ v : Int, g_M_gone s (q : Int) (w : Int) = some v ∧ -9 ≤ v ∧ v < 36 ∧ (0 ≤ v ↔ 0 ≤ zN K q w) := by
    intro w hw
    have r := zN_rng (K := K) (w := w) hq
    by_cases h : 0 ≤ zN K q w
    · exact ⟨_, by rw [e_M_gone hs hK hq hw, if_pos ⟨hc, h⟩], by omega, by omega, Iff.rfl⟩
    · exact ⟨-9, by rw [e_M_gone hs hK hq hw, if_neg (fun x => h x.2)], by omega, by omega, by omega⟩
  obtain ⟨v0, n0, a0, b0, c0⟩ := gn 0 (by decide)
  obtain ⟨v1, n1, a1, b1, c1⟩ := gn 1 (by decide)
  obtain ⟨v2, n2, a2, b2, c2⟩ := gn 2 (by decide)
  obtain ⟨v3, n3, a3, b3, c3⟩ := gn 3 (by decide)
  have last : ∀ s3 s6 : Int, (s3 = 0 ∨ s3 = 1) → (s6 = 0 ∨ s6 = 1) → ((s3 = 1) ↔ (0 ≤ zN K q 0 ∨ 0 ≤ zN K q 3)) → ((s6 = 1) ↔ (0 ≤ zN K q 1 ∨ 0 ≤ zN K q 2)) → ev (zb1 (g_M_isTurned s (q : Int)) fun (r7 : Int) => zg (zr r7) <| if r7 = (0 : Int) then (some (0 : Int)) else (zg (zr s3) <| if s3 = (0 : Int) then (some (0 : Int)) else (zg (zr s6) <| if s6 = (0 : Int) then (some (0 : Int)) else (some (1 : Int))))) (fun r => (r = 1 ∧ zYd K q) ∨ (r = 0 ∧ ¬ zYd K q)) := by
    intro s3 s6 h3 h6 e3 e6
    refine ev_c1 (e_M_turned hs hK hq) ?_
    by_cases ht : ztn (K q)
    · rw [if_pos ht]
      refine ev_g (by omega) (ev_f (by decide) (ev_g (by omega) (ev_if (fun h => ev_some (Or.inr ⟨rfl, fun y => by have := e3.mpr y.2.1; omega⟩)) (fun h => ev_g (by omega) (ev_if (fun h9 => ev_some (Or.inr ⟨rfl, fun y => by have := e6.mpr y.2.2; omega⟩)) (fun h9 => ev_some (Or.inl ⟨rfl, ht, e3.mp (by omega), e6.mp (by omega)⟩)))))))
    · rw [if_neg ht]
      exact ev_g (by omega) (ev_t rfl (ev_some (Or.inr ⟨rfl, fun y => ht y.1⟩)))
  unfold g_M_isYard
  refine ev_c1 n0 (ev_j1 (fun s3 => (s3 = 0 ∨ s3 = 1) ∧ ((s3 = 1) ↔ (0 ≤ zN K q 0 ∨ 0 ≤ zN K q 3))) (fun s3 h3 => ?_) (fun k hk => ?_))
  · refine ev_c1 n1 (ev_j1 (fun s6 => (s6 = 0 ∨ s6 = 1) ∧ ((s6 = 1) ↔ (0 ≤ zN K q 1 ∨ 0 ≤ zN K q 2))) (fun s6 h6 => last s3 s6 h3.1 h6.1 h3.2 h6.2) (fun k hk => ?_))
    refine ev_i1 (ev_g (by omega) (ev_if (fun h => hk 1 ⟨by omega, by omega⟩) (fun h => ev_c1 n2 (ev_g (by omega) (ev_if (fun h9 => hk 0 ⟨by omega, by omega⟩) (fun h9 => hk 1 ⟨by omega, by omega⟩))))))
  · refine ev_i1 (ev_g (by omega) (ev_if (fun h => hk 1 ⟨by omega, by omega⟩) (fun h => ev_c1 n3 (ev_g (by omega) (ev_if (fun h9 => hk 0 ⟨by omega, by omega⟩) (fun h9 => hk 1 ⟨by omega, by omega⟩))))))
theorem m_yards {K s ra rb : Nat → Int} {a : Int} (c : Int) (come far f : Nat → Int) (hK : zK K) (hs : zR s K) (hr : iRef ra rb) (ha : zr a) : ev2 (g_X_yards c come far ra K a) (g_M_yards rb s f a) (fun x y => x.1 = y.1 ∧ iRef x.2.2.2.2 y.2.1) := by
  unfold g_X_yards g_M_yards
  by_cases h : 0 ≤ a ∧ a < 36
  case neg =>
    refine e2_ev ?_
    repeat' (first
    | with_reducible refine ev_g (by omega) ?_
    | with_reducible refine ev_n ?_
    | with_reducible refine ev_i1 ?_
    | with_reducible refine ev_i2 ?_
    | with_reducible refine ev_i3 ?_
    | with_reducible refine ev_i4 ?_
    | with_reducible refine ev_c2 (er_1 _) ?_
    | with_reducible refine ev_c2 (er_2 _) ?_
    | with_reducible refine ev_c2 (er_3 _) ?_
    | with_reducible refine ev_c2 (er_4 _) ?_
    | with_reducible refine ev_c2 (er_5 _) ?_
    | with_reducible refine ev_c2 (er_6 _) ?_
    | with_reducible refine ev_c2 (en_1 _) ?_
    | with_reducible refine ev_c2 (en_2 _) ?_
    | with_reducible refine ev_c2 (en_3 _) ?_
    | with_reducible refine ev_c2 (en_4 _) ?_
    | with_reducible refine ev_c2 (en_5 _) ?_
    | with_reducible refine ev_c2 (en_6 _) ?_
    | with_reducible refine ev_c1 (e_sqF (by omega) (by omega)) ?_
    | with_reducible refine ev_c1 (e_sqT (by omega) (by omega)) ?_
    | with_reducible refine ev_c1 (e_MsqF (by omega) (by omega)) ?_
    | with_reducible refine ev_c1 (e_MsqT (by omega) (by omega)) ?_
    | with_reducible refine ev_c1 (e_inT (by omega) (by omega) (by omega) (by omega)) ?_
    | with_reducible refine ev_c1 (e_inF (by omega) (by omega) (by omega) (by omega)) ?_
    | with_reducible refine ev_t (by omega) ?_
    | with_reducible refine ev_f (by omega) ?_
    | with_reducible refine ev_if (fun _ => ?_) (fun _ => ?_)
    | with_reducible refine ev_some ?_)
    all_goals exact ⟨rfl, iRef_up hr _ (by decide)⟩
  obtain ⟨q, rfl⟩ := Int.eq_ofNat_of_zero_le h.1
  have hq : q < 36 := by omega
  refine l_c1 (e_sqT ha h) (l_g (by omega) (l_f (by decide) (l_b3 (e_spreadFrom hK c come far hq) (fun c1 come1 far1 hx => ?_))))
  have hx : bExact K (fun t => t = q) far1 := hx
  refine r_c1 (e_MsqT ha h) (r_g (by omega) (r_f (by decide) (r_b1 (e_stepsAll hs hK f hq) (fun f1 hy => r_i1 ?_))))
  refine e2_f22_22 36 (by decide) (fun i m v => (m = -9 ∧ v = 1000000000) ∨ (m = v ∧ 0 ≤ v ∧ v ≤ 36)) (fun i m v ag ag2 hi hQ hag => ?_) (Or.inl ⟨rfl, rfl⟩)
  refine l_g (by omega) (r_g (by omega) ?_)
  by_cases h9 : i = 36
  · subst h9
    refine l_t (by omega) (r_t (by omega) (r_c1 (e_orNone (by omega)) (e2_some ⟨?_, hr⟩)))
    show m = if v < 1000000000 then v else -9
    rcases hQ with x | x
    · rw [if_neg (by omega)]; omega
    · rw [if_pos (by omega)]; omega
  have hi2 : i < 36 := by omega
  have e := bs_eq hx hy hi2
  refine l_f (by omega) (r_f (by omega) (l_c1 (e_stepsTo hi2) (l_i1 (r_g (by omega) (r_i1 (r_g (by omega) ?_))))))
  rw [Int.toNat_natCast]
  have keep := hag m v hi2 hQ
  refine r_g (by omega) (l_g (by omega) ?_)
  rcases e with e | e
  · exact l_t (by omega) (r_t (by omega) (l_n (r_n keep)))
  refine l_f (by omega) (l_b1 (e_yard hK hi2) (fun y hy2 => ?_))
  by_cases h8 : v ≤ f1 i
  · refine r_t h8 (r_n (l_g (by omega) ?_))
    rcases hy2 with ⟨y1, _⟩ | ⟨y1, _⟩
    · refine l_f (by omega) (l_i1 (l_g (by omega) (l_f (by omega) (l_t (by omega) (l_n keep)))))
    · exact l_t y1 (l_n keep)
  · refine r_f h8 (r_b1 (e_M_yard hs hK hi2 e.2.2.2) (fun z hz => l_g (by omega) (r_g (by omega) ?_)))
    rcases hy2 with ⟨y1, y2⟩ | ⟨y1, y2⟩
    · have z1 : z = 1 := by
        rcases hz with z | z
        · exact z.1
        · exact absurd y2 z.2
      have nw := hag (far1 i) (f1 i) hi2 (Or.inr ⟨e.1, e.2.1, e.2.2.1⟩)
      refine r_f (by omega) (r_n (r_n (l_f (by omega) (l_i1 (l_g (by omega) ?_)))))
      by_cases h7 : m = -9
      · exact l_t h7 (l_n nw)
      · exact l_f h7 (l_f (by omega) (l_n nw))
    · have z1 : z = 0 := by
        rcases hz with z | z
        · exact absurd z.2 y2
        · exact z.1
      exact l_t y1 (r_t z1 (l_n (r_n keep)))
