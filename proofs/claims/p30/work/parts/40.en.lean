/-! PURE: the law's rows m say what the model's row s says (En); the packed fields -/
def pk (a : Nat → Nat) : Int32 := nI (a 0 + 32 * a 1 + 1024 * a 2)
def pkv (a : Nat → Nat) : Prop := ∀ i, i < 3 → a i ≤ 24
def eC (c w n s : Nat → Int32) : Prop := ∀ k, k < 24 → s (7 * k) = (if c k < 0 then 0 else 1) ∧ (¬ c k < 0 → s (7 * k + 4) = w k ∧ s (7 * k + 5) = c k ∧ s (7 * k + 6) = n k)
def eF (c f s : Nat → Int32) : Prop := ∀ k, k < 24 → ∃ a, pkv a ∧ f k = pk a ∧ (¬ c k < 0 → ∀ i, i < 3 → s (7 * k + (1 + i)) = nI (a i) - 1)
def eR (l r s : Nat → Int32) : Prop := ∀ j, j < 24 → s (194 + j) = l j ∧ s (169 + j) = r j
def eT (t s : Nat → Int32) : Prop := ∀ j, j < 8 → s (218 + j) = t j
def eG (g s : Nat → Int32) : Prop := s 226 = g 0 ∧ (g 0 = 3 → s 227 = g 1) ∧ s 228 = g 2 ∧ s 229 = g 3 ∧ s 230 = g 4 ∧ s 231 = g 5 ∧ s 232 = g 6 ∧ s 233 = g 7 ∧ s 234 = g 8 ∧ s 193 = g 9 ∧ s 168 = g 10
def EnR (g f c w n l r t s : Nat → Int32) : Prop := eC c w n s ∧ eF c f s ∧ eR l r s ∧ eT t s ∧ eG g s
def En (m : St) (s : Nat → Int32) : Prop := EnR (m.2 0) (m.2 1) (m.2 2) (m.2 3) (m.2 4) (m.2 5) (m.2 6) (m.2 7) s
theorem eC_s {c w n s s' : Nat → Int32} (e : ∀ k, k < 24 → s' (7 * k) = s (7 * k) ∧ s' (7 * k + 4) = s (7 * k + 4) ∧ s' (7 * k + 5) = s (7 * k + 5) ∧ s' (7 * k + 6) = s (7 * k + 6)) (h : eC c w n s) : eC c w n s' := fun k hk => by
  obtain ⟨a, b, c, d⟩ := e k hk
  rw [a, b, c, d]
  exact h k hk
theorem eF_s {c f s s' : Nat → Int32} (e : ∀ k i, k < 24 → i < 3 → s' (7 * k + (1 + i)) = s (7 * k + (1 + i))) (h : eF c f s) : eF c f s' := fun k hk => by
  obtain ⟨a, h1, h2, h3⟩ := h k hk
  exact ⟨a, h1, h2, fun q i hi => (e k i hk hi).trans (h3 q i hi)⟩
theorem eR_s {l r s s' : Nat → Int32} (e : ∀ j, j < 24 → s' (194 + j) = s (194 + j) ∧ s' (169 + j) = s (169 + j)) (h : eR l r s) : eR l r s' := fun j hj => ⟨(e j hj).1.trans (h j hj).1, (e j hj).2.trans (h j hj).2⟩
theorem eT_s {t s s' : Nat → Int32} (e : ∀ j, j < 8 → s' (218 + j) = s (218 + j)) (h : eT t s) : eT t s' := fun j hj => (e j hj).trans (h j hj)
theorem eG_s {g s s' : Nat → Int32} (e : ∀ i, 226 ≤ i → s' i = s i) (e1 : s' 193 = s 193) (e2 : s' 168 = s 168) (h : eG g s) : eG g s' := by
  obtain ⟨a, b, c, d, e3, f, i, j, k, l, m⟩ := h
  exact ⟨(e _ (by omega)).trans a, fun q => (e _ (by omega)).trans (b q), (e _ (by omega)).trans c, (e _ (by omega)).trans d, (e _ (by omega)).trans e3, (e _ (by omega)).trans f, (e _ (by omega)).trans i, (e _ (by omega)).trans j, (e _ (by omega)).trans k, e1.trans l, e2.trans m⟩
section EU
variable {g f c w n l r t s : Nat → Int32}
theorem E_row (h : EnR g f c w n l r t s) {j : Nat} (hj : j < 24) (v : Int32) : EnR g f c w n l (upd r j v) t (upd s (169 + j) v) := by
  obtain ⟨h1, h2, h3, h4, h5⟩ := h
  exact ⟨eC_s (fun k1 hk1 => by simp (disch := omega) only [upd_ne, and_self]) h1,
    eF_s (fun k1 i1 hk1 hi1 => by simp (disch := omega) only [upd_ne, and_self]) h2,
    fun j1 hj1 => ⟨by rw [upd_ne (by omega)]; exact (h3 j1 hj1).1, by
      by_cases e : j1 = j
      · subst e; rw [upd_eq, upd_eq]
      · rw [upd_ne (by omega), upd_ne e]; exact (h3 j1 hj1).2⟩,
    eT_s (fun j1 hj1 => by simp (disch := omega) only [upd_ne, and_self]) h4,
    eG_s (fun i1 hi1 => by simp (disch := omega) only [upd_ne, and_self]) (by simp (disch := omega) only [upd_ne, and_self]) (by simp (disch := omega) only [upd_ne, and_self]) h5⟩
theorem E_lst (h : EnR g f c w n l r t s) {j : Nat} (hj : j < 24) (v : Int32) : EnR g f c w n (upd l j v) r t (upd s (194 + j) v) := by
  obtain ⟨h1, h2, h3, h4, h5⟩ := h
  exact ⟨eC_s (fun k1 hk1 => by simp (disch := omega) only [upd_ne, and_self]) h1,
    eF_s (fun k1 i1 hk1 hi1 => by simp (disch := omega) only [upd_ne, and_self]) h2,
    fun j1 hj1 => ⟨by
      by_cases e : j1 = j
      · subst e; rw [upd_eq, upd_eq]
      · rw [upd_ne (by omega), upd_ne e]; exact (h3 j1 hj1).1, by rw [upd_ne (by omega)]; exact (h3 j1 hj1).2⟩,
    eT_s (fun j1 hj1 => by simp (disch := omega) only [upd_ne, and_self]) h4,
    eG_s (fun i1 hi1 => by simp (disch := omega) only [upd_ne, and_self]) (by simp (disch := omega) only [upd_ne, and_self]) (by simp (disch := omega) only [upd_ne, and_self]) h5⟩
theorem E_t (h : EnR g f c w n l r t s) {j : Nat} (hj : j < 8) (v : Int32) : EnR g f c w n l r (upd t j v) (upd s (218 + j) v) := by
  obtain ⟨h1, h2, h3, h4, h5⟩ := h
  exact ⟨eC_s (fun k1 hk1 => by simp (disch := omega) only [upd_ne, and_self]) h1,
    eF_s (fun k1 i1 hk1 hi1 => by simp (disch := omega) only [upd_ne, and_self]) h2,
    eR_s (fun j1 hj1 => by simp (disch := omega) only [upd_ne, and_self]) h3,
    fun j1 hj1 => by
      by_cases e : j1 = j
      · subst e; rw [upd_eq, upd_eq]
      · rw [upd_ne (by omega), upd_ne e]; exact h4 j1 hj1,
    eG_s (fun i1 hi1 => by simp (disch := omega) only [upd_ne, and_self]) (by simp (disch := omega) only [upd_ne, and_self]) (by simp (disch := omega) only [upd_ne, and_self]) h5⟩
theorem E_w (h : EnR g f c w n l r t s) {k : Nat} (hk : k < 24) (v : Int32) : EnR g f c (upd w k v) n l r t (upd s (7 * k + 4) v) := by
  obtain ⟨h1, h2, h3, h4, h5⟩ := h
  exact ⟨fun k1 hk1 => by
      obtain ⟨a, b⟩ := h1 k1 hk1
      by_cases e : k1 = k
      · subst e
        refine ⟨by rw [upd_ne (by omega)]; exact a, fun q => ?_⟩
        obtain ⟨b1, b2, b3⟩ := b q
        exact ⟨by rw [upd_eq, upd_eq], by rw [upd_ne (by omega)]; exact b2, by rw [upd_ne (by omega)]; exact b3⟩
      · refine ⟨by rw [upd_ne (by omega)]; exact a, fun q => ?_⟩
        obtain ⟨b1, b2, b3⟩ := b q
        exact ⟨by rw [upd_ne (by omega), upd_ne e]; exact b1, by rw [upd_ne (by omega)]; exact b2, by rw [upd_ne (by omega)]; exact b3⟩,
    eF_s (fun k1 i1 hk1 hi1 => by simp (disch := omega) only [upd_ne, and_self]) h2,
    eR_s (fun j1 hj1 => by simp (disch := omega) only [upd_ne, and_self]) h3,
    eT_s (fun j1 hj1 => by simp (disch := omega) only [upd_ne, and_self]) h4,
    eG_s (fun i1 hi1 => by simp (disch := omega) only [upd_ne, and_self]) (by simp (disch := omega) only [upd_ne, and_self]) (by simp (disch := omega) only [upd_ne, and_self]) h5⟩
theorem E_n (h : EnR g f c w n l r t s) {k : Nat} (hk : k < 24) (v : Int32) : EnR g f c w (upd n k v) l r t (upd s (7 * k + 6) v) := by
  obtain ⟨h1, h2, h3, h4, h5⟩ := h
  exact ⟨fun k1 hk1 => by
      obtain ⟨a, b⟩ := h1 k1 hk1
      by_cases e : k1 = k
      · subst e
        refine ⟨by rw [upd_ne (by omega)]; exact a, fun q => ?_⟩
        obtain ⟨b1, b2, b3⟩ := b q
        exact ⟨by rw [upd_ne (by omega)]; exact b1, by rw [upd_ne (by omega)]; exact b2, by rw [upd_eq, upd_eq]⟩
      · refine ⟨by rw [upd_ne (by omega)]; exact a, fun q => ?_⟩
        obtain ⟨b1, b2, b3⟩ := b q
        exact ⟨by rw [upd_ne (by omega)]; exact b1, by rw [upd_ne (by omega)]; exact b2, by rw [upd_ne (by omega), upd_ne e]; exact b3⟩,
    eF_s (fun k1 i1 hk1 hi1 => by simp (disch := omega) only [upd_ne, and_self]) h2,
    eR_s (fun j1 hj1 => by simp (disch := omega) only [upd_ne, and_self]) h3,
    eT_s (fun j1 hj1 => by simp (disch := omega) only [upd_ne, and_self]) h4,
    eG_s (fun i1 hi1 => by simp (disch := omega) only [upd_ne, and_self]) (by simp (disch := omega) only [upd_ne, and_self]) (by simp (disch := omega) only [upd_ne, and_self]) h5⟩
theorem E_c (h : EnR g f c w n l r t s) {k : Nat} (hk : k < 24) (hc : ¬ c k < 0) {v : Int32} (hv : ¬ v < 0) : EnR g f (upd c k v) w n l r t (upd s (7 * k + 5) v) := by
  obtain ⟨h1, h2, h3, h4, h5⟩ := h
  have e0 : ∀ k1, (upd c k v k1 < 0) ↔ c k1 < 0 := fun k1 => by
    by_cases e : k1 = k
    · subst e; rw [upd_eq]; exact ⟨fun q => absurd q hv, fun q => absurd q hc⟩
    · rw [upd_ne e]
  refine ⟨fun k1 hk1 => ?_, fun k1 hk1 => ?_, eR_s (fun j1 hj1 => by simp (disch := omega) only [upd_ne, and_self]) h3, eT_s (fun j1 hj1 => by simp (disch := omega) only [upd_ne, and_self]) h4, eG_s (fun i1 hi1 => by simp (disch := omega) only [upd_ne, and_self]) (by simp (disch := omega) only [upd_ne, and_self]) (by simp (disch := omega) only [upd_ne, and_self]) h5⟩
  · obtain ⟨a, b⟩ := h1 k1 hk1
    refine ⟨?_, fun q => ?_⟩
    · rw [upd_ne (by omega), a]
      by_cases q : c k1 < 0
      · rw [if_pos q, if_pos ((e0 k1).mpr q)]
      · rw [if_neg q, if_neg (fun z => q ((e0 k1).mp z))]
    · obtain ⟨b1, b2, b3⟩ := b (fun z => q ((e0 k1).mpr z))
      refine ⟨by rw [upd_ne (by omega)]; exact b1, ?_, by rw [upd_ne (by omega)]; exact b3⟩
      by_cases e : k1 = k
      · subst e; rw [upd_eq, upd_eq]
      · rw [upd_ne (by omega), upd_ne e]; exact b2
  · obtain ⟨a, b1, b2, b3⟩ := h2 k1 hk1
    exact ⟨a, b1, b2, fun q i hi => by rw [upd_ne (by omega)]; exact b3 (fun z => q ((e0 k1).mpr z)) i hi⟩
theorem E_g2 (h : EnR g f c w n l r t s) (v : Int32) : EnR (upd g 2 v) f c w n l r t (upd s 228 v) := by
  obtain ⟨h1, h2, h3, h4, h5⟩ := h
  exact ⟨eC_s (fun k1 hk1 => by simp (disch := omega) only [upd_ne, and_self]) h1,
    eF_s (fun k1 i1 hk1 hi1 => by simp (disch := omega) only [upd_ne, and_self]) h2,
    eR_s (fun j1 hj1 => by simp (disch := omega) only [upd_ne, and_self]) h3,
    eT_s (fun j1 hj1 => by simp (disch := omega) only [upd_ne, and_self]) h4,
    by
      obtain ⟨a, b, c1, d, e, f1, i, j, k, l1, m⟩ := h5
      exact ⟨by rw [upd_ne (by omega), upd_ne (by omega)]; exact a, fun q => by rw [upd_ne (by omega)] at q; rw [upd_ne (by omega), upd_ne (by omega)]; exact b q, by rw [upd_eq, upd_eq], by rw [upd_ne (by omega), upd_ne (by omega)]; exact d, by rw [upd_ne (by omega), upd_ne (by omega)]; exact e, by rw [upd_ne (by omega), upd_ne (by omega)]; exact f1, by rw [upd_ne (by omega), upd_ne (by omega)]; exact i, by rw [upd_ne (by omega), upd_ne (by omega)]; exact j, by rw [upd_ne (by omega), upd_ne (by omega)]; exact k, by rw [upd_ne (by omega), upd_ne (by omega)]; exact l1, by rw [upd_ne (by omega), upd_ne (by omega)]; exact m⟩⟩
theorem E_g3 (h : EnR g f c w n l r t s) (v : Int32) : EnR (upd g 3 v) f c w n l r t (upd s 229 v) := by
  obtain ⟨h1, h2, h3, h4, h5⟩ := h
  exact ⟨eC_s (fun k1 hk1 => by simp (disch := omega) only [upd_ne, and_self]) h1,
    eF_s (fun k1 i1 hk1 hi1 => by simp (disch := omega) only [upd_ne, and_self]) h2,
    eR_s (fun j1 hj1 => by simp (disch := omega) only [upd_ne, and_self]) h3,
    eT_s (fun j1 hj1 => by simp (disch := omega) only [upd_ne, and_self]) h4,
    by
      obtain ⟨a, b, c1, d, e, f1, i, j, k, l1, m⟩ := h5
      exact ⟨by rw [upd_ne (by omega), upd_ne (by omega)]; exact a, fun q => by rw [upd_ne (by omega)] at q; rw [upd_ne (by omega), upd_ne (by omega)]; exact b q, by rw [upd_ne (by omega), upd_ne (by omega)]; exact c1, by rw [upd_eq, upd_eq], by rw [upd_ne (by omega), upd_ne (by omega)]; exact e, by rw [upd_ne (by omega), upd_ne (by omega)]; exact f1, by rw [upd_ne (by omega), upd_ne (by omega)]; exact i, by rw [upd_ne (by omega), upd_ne (by omega)]; exact j, by rw [upd_ne (by omega), upd_ne (by omega)]; exact k, by rw [upd_ne (by omega), upd_ne (by omega)]; exact l1, by rw [upd_ne (by omega), upd_ne (by omega)]; exact m⟩⟩
theorem E_g4 (h : EnR g f c w n l r t s) (v : Int32) : EnR (upd g 4 v) f c w n l r t (upd s 230 v) := by
  obtain ⟨h1, h2, h3, h4, h5⟩ := h
  exact ⟨eC_s (fun k1 hk1 => by simp (disch := omega) only [upd_ne, and_self]) h1,
    eF_s (fun k1 i1 hk1 hi1 => by simp (disch := omega) only [upd_ne, and_self]) h2,
    eR_s (fun j1 hj1 => by simp (disch := omega) only [upd_ne, and_self]) h3,
    eT_s (fun j1 hj1 => by simp (disch := omega) only [upd_ne, and_self]) h4,
    by
      obtain ⟨a, b, c1, d, e, f1, i, j, k, l1, m⟩ := h5
      exact ⟨by rw [upd_ne (by omega), upd_ne (by omega)]; exact a, fun q => by rw [upd_ne (by omega)] at q; rw [upd_ne (by omega), upd_ne (by omega)]; exact b q, by rw [upd_ne (by omega), upd_ne (by omega)]; exact c1, by rw [upd_ne (by omega), upd_ne (by omega)]; exact d, by rw [upd_eq, upd_eq], by rw [upd_ne (by omega), upd_ne (by omega)]; exact f1, by rw [upd_ne (by omega), upd_ne (by omega)]; exact i, by rw [upd_ne (by omega), upd_ne (by omega)]; exact j, by rw [upd_ne (by omega), upd_ne (by omega)]; exact k, by rw [upd_ne (by omega), upd_ne (by omega)]; exact l1, by rw [upd_ne (by omega), upd_ne (by omega)]; exact m⟩⟩
theorem E_g5 (h : EnR g f c w n l r t s) (v : Int32) : EnR (upd g 5 v) f c w n l r t (upd s 231 v) := by
  obtain ⟨h1, h2, h3, h4, h5⟩ := h
  exact ⟨eC_s (fun k1 hk1 => by simp (disch := omega) only [upd_ne, and_self]) h1,
    eF_s (fun k1 i1 hk1 hi1 => by simp (disch := omega) only [upd_ne, and_self]) h2,
    eR_s (fun j1 hj1 => by simp (disch := omega) only [upd_ne, and_self]) h3,
    eT_s (fun j1 hj1 => by simp (disch := omega) only [upd_ne, and_self]) h4,
    by
      obtain ⟨a, b, c1, d, e, f1, i, j, k, l1, m⟩ := h5
      exact ⟨by rw [upd_ne (by omega), upd_ne (by omega)]; exact a, fun q => by rw [upd_ne (by omega)] at q; rw [upd_ne (by omega), upd_ne (by omega)]; exact b q, by rw [upd_ne (by omega), upd_ne (by omega)]; exact c1, by rw [upd_ne (by omega), upd_ne (by omega)]; exact d, by rw [upd_ne (by omega), upd_ne (by omega)]; exact e, by rw [upd_eq, upd_eq], by rw [upd_ne (by omega), upd_ne (by omega)]; exact i, by rw [upd_ne (by omega), upd_ne (by omega)]; exact j, by rw [upd_ne (by omega), upd_ne (by omega)]; exact k, by rw [upd_ne (by omega), upd_ne (by omega)]; exact l1, by rw [upd_ne (by omega), upd_ne (by omega)]; exact m⟩⟩
theorem E_g6 (h : EnR g f c w n l r t s) (v : Int32) : EnR (upd g 6 v) f c w n l r t (upd s 232 v) := by
  obtain ⟨h1, h2, h3, h4, h5⟩ := h
  exact ⟨eC_s (fun k1 hk1 => by simp (disch := omega) only [upd_ne, and_self]) h1,
    eF_s (fun k1 i1 hk1 hi1 => by simp (disch := omega) only [upd_ne, and_self]) h2,
    eR_s (fun j1 hj1 => by simp (disch := omega) only [upd_ne, and_self]) h3,
    eT_s (fun j1 hj1 => by simp (disch := omega) only [upd_ne, and_self]) h4,
    by
      obtain ⟨a, b, c1, d, e, f1, i, j, k, l1, m⟩ := h5
      exact ⟨by rw [upd_ne (by omega), upd_ne (by omega)]; exact a, fun q => by rw [upd_ne (by omega)] at q; rw [upd_ne (by omega), upd_ne (by omega)]; exact b q, by rw [upd_ne (by omega), upd_ne (by omega)]; exact c1, by rw [upd_ne (by omega), upd_ne (by omega)]; exact d, by rw [upd_ne (by omega), upd_ne (by omega)]; exact e, by rw [upd_ne (by omega), upd_ne (by omega)]; exact f1, by rw [upd_eq, upd_eq], by rw [upd_ne (by omega), upd_ne (by omega)]; exact j, by rw [upd_ne (by omega), upd_ne (by omega)]; exact k, by rw [upd_ne (by omega), upd_ne (by omega)]; exact l1, by rw [upd_ne (by omega), upd_ne (by omega)]; exact m⟩⟩
theorem E_g7 (h : EnR g f c w n l r t s) (v : Int32) : EnR (upd g 7 v) f c w n l r t (upd s 233 v) := by
  obtain ⟨h1, h2, h3, h4, h5⟩ := h
  exact ⟨eC_s (fun k1 hk1 => by simp (disch := omega) only [upd_ne, and_self]) h1,
    eF_s (fun k1 i1 hk1 hi1 => by simp (disch := omega) only [upd_ne, and_self]) h2,
    eR_s (fun j1 hj1 => by simp (disch := omega) only [upd_ne, and_self]) h3,
    eT_s (fun j1 hj1 => by simp (disch := omega) only [upd_ne, and_self]) h4,
    by
      obtain ⟨a, b, c1, d, e, f1, i, j, k, l1, m⟩ := h5
      exact ⟨by rw [upd_ne (by omega), upd_ne (by omega)]; exact a, fun q => by rw [upd_ne (by omega)] at q; rw [upd_ne (by omega), upd_ne (by omega)]; exact b q, by rw [upd_ne (by omega), upd_ne (by omega)]; exact c1, by rw [upd_ne (by omega), upd_ne (by omega)]; exact d, by rw [upd_ne (by omega), upd_ne (by omega)]; exact e, by rw [upd_ne (by omega), upd_ne (by omega)]; exact f1, by rw [upd_ne (by omega), upd_ne (by omega)]; exact i, by rw [upd_eq, upd_eq], by rw [upd_ne (by omega), upd_ne (by omega)]; exact k, by rw [upd_ne (by omega), upd_ne (by omega)]; exact l1, by rw [upd_ne (by omega), upd_ne (by omega)]; exact m⟩⟩
theorem E_g8 (h : EnR g f c w n l r t s) (v : Int32) : EnR (upd g 8 v) f c w n l r t (upd s 234 v) := by
  obtain ⟨h1, h2, h3, h4, h5⟩ := h
  exact ⟨eC_s (fun k1 hk1 => by simp (disch := omega) only [upd_ne, and_self]) h1,
    eF_s (fun k1 i1 hk1 hi1 => by simp (disch := omega) only [upd_ne, and_self]) h2,
    eR_s (fun j1 hj1 => by simp (disch := omega) only [upd_ne, and_self]) h3,
    eT_s (fun j1 hj1 => by simp (disch := omega) only [upd_ne, and_self]) h4,
    by
      obtain ⟨a, b, c1, d, e, f1, i, j, k, l1, m⟩ := h5
      exact ⟨by rw [upd_ne (by omega), upd_ne (by omega)]; exact a, fun q => by rw [upd_ne (by omega)] at q; rw [upd_ne (by omega), upd_ne (by omega)]; exact b q, by rw [upd_ne (by omega), upd_ne (by omega)]; exact c1, by rw [upd_ne (by omega), upd_ne (by omega)]; exact d, by rw [upd_ne (by omega), upd_ne (by omega)]; exact e, by rw [upd_ne (by omega), upd_ne (by omega)]; exact f1, by rw [upd_ne (by omega), upd_ne (by omega)]; exact i, by rw [upd_ne (by omega), upd_ne (by omega)]; exact j, by rw [upd_eq, upd_eq], by rw [upd_ne (by omega), upd_ne (by omega)]; exact l1, by rw [upd_ne (by omega), upd_ne (by omega)]; exact m⟩⟩
theorem E_g9 (h : EnR g f c w n l r t s) (v : Int32) : EnR (upd g 9 v) f c w n l r t (upd s 193 v) := by
  obtain ⟨h1, h2, h3, h4, h5⟩ := h
  exact ⟨eC_s (fun k1 hk1 => by simp (disch := omega) only [upd_ne, and_self]) h1,
    eF_s (fun k1 i1 hk1 hi1 => by simp (disch := omega) only [upd_ne, and_self]) h2,
    eR_s (fun j1 hj1 => by simp (disch := omega) only [upd_ne, and_self]) h3,
    eT_s (fun j1 hj1 => by simp (disch := omega) only [upd_ne, and_self]) h4,
    by
      obtain ⟨a, b, c1, d, e, f1, i, j, k, l1, m⟩ := h5
      exact ⟨by rw [upd_ne (by omega), upd_ne (by omega)]; exact a, fun q => by rw [upd_ne (by omega)] at q; rw [upd_ne (by omega), upd_ne (by omega)]; exact b q, by rw [upd_ne (by omega), upd_ne (by omega)]; exact c1, by rw [upd_ne (by omega), upd_ne (by omega)]; exact d, by rw [upd_ne (by omega), upd_ne (by omega)]; exact e, by rw [upd_ne (by omega), upd_ne (by omega)]; exact f1, by rw [upd_ne (by omega), upd_ne (by omega)]; exact i, by rw [upd_ne (by omega), upd_ne (by omega)]; exact j, by rw [upd_ne (by omega), upd_ne (by omega)]; exact k, by rw [upd_eq, upd_eq], by rw [upd_ne (by omega), upd_ne (by omega)]; exact m⟩⟩
theorem E_g10 (h : EnR g f c w n l r t s) (v : Int32) : EnR (upd g 10 v) f c w n l r t (upd s 168 v) := by
  obtain ⟨h1, h2, h3, h4, h5⟩ := h
  exact ⟨eC_s (fun k1 hk1 => by simp (disch := omega) only [upd_ne, and_self]) h1,
    eF_s (fun k1 i1 hk1 hi1 => by simp (disch := omega) only [upd_ne, and_self]) h2,
    eR_s (fun j1 hj1 => by simp (disch := omega) only [upd_ne, and_self]) h3,
    eT_s (fun j1 hj1 => by simp (disch := omega) only [upd_ne, and_self]) h4,
    by
      obtain ⟨a, b, c1, d, e, f1, i, j, k, l1, m⟩ := h5
      exact ⟨by rw [upd_ne (by omega), upd_ne (by omega)]; exact a, fun q => by rw [upd_ne (by omega)] at q; rw [upd_ne (by omega), upd_ne (by omega)]; exact b q, by rw [upd_ne (by omega), upd_ne (by omega)]; exact c1, by rw [upd_ne (by omega), upd_ne (by omega)]; exact d, by rw [upd_ne (by omega), upd_ne (by omega)]; exact e, by rw [upd_ne (by omega), upd_ne (by omega)]; exact f1, by rw [upd_ne (by omega), upd_ne (by omega)]; exact i, by rw [upd_ne (by omega), upd_ne (by omega)]; exact j, by rw [upd_ne (by omega), upd_ne (by omega)]; exact k, by rw [upd_ne (by omega), upd_ne (by omega)]; exact l1, by rw [upd_eq, upd_eq]⟩⟩
theorem E_g0 (h : EnR g f c w n l r t s) {v : Int32} (hv : v = 3 → s 227 = g 1) : EnR (upd g 0 v) f c w n l r t (upd s 226 v) := by
  obtain ⟨h1, h2, h3, h4, h5⟩ := h
  exact ⟨eC_s (fun k1 hk1 => by simp (disch := omega) only [upd_ne, and_self]) h1,
    eF_s (fun k1 i1 hk1 hi1 => by simp (disch := omega) only [upd_ne, and_self]) h2,
    eR_s (fun j1 hj1 => by simp (disch := omega) only [upd_ne, and_self]) h3,
    eT_s (fun j1 hj1 => by simp (disch := omega) only [upd_ne, and_self]) h4,
    by
      obtain ⟨a, b, c1, d, e, f1, i, j, k, l1, m⟩ := h5
      exact ⟨by rw [upd_eq, upd_eq], fun q => by rw [upd_eq] at q; rw [upd_ne (by omega), upd_ne (by omega)]; exact hv q, by rw [upd_ne (by omega), upd_ne (by omega)]; exact c1, by rw [upd_ne (by omega), upd_ne (by omega)]; exact d, by rw [upd_ne (by omega), upd_ne (by omega)]; exact e, by rw [upd_ne (by omega), upd_ne (by omega)]; exact f1, by rw [upd_ne (by omega), upd_ne (by omega)]; exact i, by rw [upd_ne (by omega), upd_ne (by omega)]; exact j, by rw [upd_ne (by omega), upd_ne (by omega)]; exact k, by rw [upd_ne (by omega), upd_ne (by omega)]; exact l1, by rw [upd_ne (by omega), upd_ne (by omega)]; exact m⟩⟩
theorem E_g1 (h : EnR g f c w n l r t s) (v : Int32) : EnR (upd g 1 v) f c w n l r t (upd s 227 v) := by
  obtain ⟨h1, h2, h3, h4, h5⟩ := h
  exact ⟨eC_s (fun k1 hk1 => by simp (disch := omega) only [upd_ne, and_self]) h1,
    eF_s (fun k1 i1 hk1 hi1 => by simp (disch := omega) only [upd_ne, and_self]) h2,
    eR_s (fun j1 hj1 => by simp (disch := omega) only [upd_ne, and_self]) h3,
    eT_s (fun j1 hj1 => by simp (disch := omega) only [upd_ne, and_self]) h4,
    by
      obtain ⟨a, b, c1, d, e, f1, i, j, k, l1, m⟩ := h5
      exact ⟨by rw [upd_ne (by omega), upd_ne (by omega)]; exact a, fun q => by rw [upd_eq, upd_eq], by rw [upd_ne (by omega), upd_ne (by omega)]; exact c1, by rw [upd_ne (by omega), upd_ne (by omega)]; exact d, by rw [upd_ne (by omega), upd_ne (by omega)]; exact e, by rw [upd_ne (by omega), upd_ne (by omega)]; exact f1, by rw [upd_ne (by omega), upd_ne (by omega)]; exact i, by rw [upd_ne (by omega), upd_ne (by omega)]; exact j, by rw [upd_ne (by omega), upd_ne (by omega)]; exact k, by rw [upd_ne (by omega), upd_ne (by omega)]; exact l1, by rw [upd_ne (by omega), upd_ne (by omega)]; exact m⟩⟩
theorem E_g1n (h : EnR g f c w n l r t s) (h0 : ¬ g 0 = 3) (v : Int32) : EnR (upd g 1 v) f c w n l r t s := by
  obtain ⟨h1, h2, h3, h4, h5⟩ := h
  obtain ⟨a, b, c1, d, e, f1, i, j, k, l1, m⟩ := h5
  exact ⟨h1, h2, h3, h4, by rw [upd_ne (by omega)]; exact a, fun q => by rw [upd_ne (by omega)] at q; exact absurd q h0, by rw [upd_ne (by omega)]; exact c1, by rw [upd_ne (by omega)]; exact d, by rw [upd_ne (by omega)]; exact e, by rw [upd_ne (by omega)]; exact f1, by rw [upd_ne (by omega)]; exact i, by rw [upd_ne (by omega)]; exact j, by rw [upd_ne (by omega)]; exact k, by rw [upd_ne (by omega)]; exact l1, by rw [upd_ne (by omega)]; exact m⟩
end EU
/-! the packed fields -/
theorem at_dec : ∀ i, i < 72 → nI i / 3 = nI (i / 3) ∧ (5 * (nI i - nI i / 3 * 3)) &&& 31 = nI (5 * (i % 3)) := by decide +kernel
theorem sh_dec : ∀ j, j < 3 → ((nI (5 * j)).toBitVec.smod 32).toNat = 5 * j := by decide +kernel
theorem nI_sar {X j : Nat} (hX : X < 32768) (hj : j < 3) : nI X >>> nI (5 * j) = nI (X / 2 ^ (5 * j)) := by
  apply Int32.toBitVec_inj.mp
  rw [Int32.toBitVec_shiftRight]
  show (nI X).toBitVec.sshiftRight ((nI (5 * j)).toBitVec.smod 32).toNat = _
  rw [sh_dec j hj, nI_bv, nI_bv, BitVec.sshiftRight_eq_of_msb_false]
  · apply BitVec.eq_of_toNat_eq
    have h2 : X / 2 ^ (5 * j) ≤ X := Nat.div_le_self _ _
    rw [BitVec.toNat_ushiftRight, BitVec.toNat_ofNat, BitVec.toNat_ofNat, Nat.shiftRight_eq_div_pow, Nat.mod_eq_of_lt (by omega), Nat.mod_eq_of_lt (by omega)]
  · rw [BitVec.msb_eq_decide, BitVec.toNat_ofNat]
    exact decide_eq_false (by omega)
theorem nI_31 (a : Nat) : nI a &&& 31 = nI (a % 32) := by
  rw [show (31 : Int32) = nI 31 from rfl, nI_land]
  congr 1
  exact Nat.and_two_pow_sub_one_eq_mod a 5
theorem pk_at {a : Nat → Nat} (ha : pkv a) {j : Nat} (hj : j < 3) : (pk a >>> nI (5 * j)) &&& 31 = nI (a j) := by
  have h0 := ha 0 (by omega)
  have h1 := ha 1 (by omega)
  have h2 := ha 2 (by omega)
  unfold pk
  rw [nI_sar (by omega) hj, nI_31]
  congr 1
  rcases (by omega : j = 0 ∨ j = 1 ∨ j = 2) with rfl | rfl | rfl
  · show (a 0 + 32 * a 1 + 1024 * a 2) / 1 % 32 = a 0
    omega
  · show (a 0 + 32 * a 1 + 1024 * a 2) / 32 % 32 = a 1
    omega
  · show (a 0 + 32 * a 1 + 1024 * a 2) / 1024 % 32 = a 2
    omega
def updN (a : Nat → Nat) (j b : Nat) : Nat → Nat := fun i => if i = j then b else a i
theorem updN_v {a : Nat → Nat} (ha : pkv a) {j b : Nat} (hb : b ≤ 24) : pkv (updN a j b) := fun i hi => by
  unfold updN
  split
  · exact hb
  · exact ha i hi
theorem dif_dec : ∀ b, b < 25 → ∀ a, a < 25 → ∀ j, j < 3 → ((nI b - 1) - (nI a - 1)) <<< nI (5 * j) = nI (2 ^ (5 * j) * b) - nI (2 ^ (5 * j) * a) := by decide +kernel
theorem add_sub2 (x y z : Int32) : x + (y - z) = x + y - z := by
  rw [Int32.sub_eq_add_neg, Int32.sub_eq_add_neg, Int32.add_assoc]
theorem pk_put {a : Nat → Nat} (ha : pkv a) {j b : Nat} (hj : j < 3) (hb : b ≤ 24) : pk a + ((nI b - 1) - (nI (a j) - 1)) <<< nI (5 * j) = pk (updN a j b) := by
  have h0 := ha 0 (by omega)
  have h1 := ha 1 (by omega)
  have h2 := ha 2 (by omega)
  rw [dif_dec b (by omega) (a j) (by have := ha j hj; omega) j hj, add_sub2]
  unfold pk
  rw [nI_add, nI_sub]
  · congr 1
    rcases (by omega : j = 0 ∨ j = 1 ∨ j = 2) with rfl | rfl | rfl
    · show a 0 + 32 * a 1 + 1024 * a 2 + 1 * b - 1 * a 0 = b + 32 * a 1 + 1024 * a 2
      omega
    · show a 0 + 32 * a 1 + 1024 * a 2 + 32 * b - 32 * a 1 = a 0 + 32 * b + 1024 * a 2
      omega
    · show a 0 + 32 * a 1 + 1024 * a 2 + 1024 * b - 1024 * a 2 = a 0 + 32 * a 1 + 1024 * b
      omega
  · rcases (by omega : j = 0 ∨ j = 1 ∨ j = 2) with rfl | rfl | rfl
    · show 1 * a 0 ≤ a 0 + 32 * a 1 + 1024 * a 2 + 1 * b
      omega
    · show 32 * a 1 ≤ a 0 + 32 * a 1 + 1024 * a 2 + 32 * b
      omega
    · show 1024 * a 2 ≤ a 0 + 32 * a 1 + 1024 * a 2 + 1024 * b
      omega
theorem e_Lat {i : Nat} (hi : i < 72) {m : St} {a : Nat → Nat} (ha : pkv a) (h : m.2 1 (i / 3) = pk a) : f_L_at (nI i) m = some (nI (a (i % 3)) - 1, m) := by
  obtain ⟨d1, d2⟩ := at_dec i hi
  have hc : (nI (i / 3)).toNatClampNeg = i / 3 := nI_clamp (by omega)
  unfold f_L_at
  rw [d2, d1, if_pos ((ibN (by omega)).mpr (by omega)), hc, h, pk_at ha (by omega)]
theorem e_Lput {i : Nat} (hi : i < 72) {m : St} {a : Nat → Nat} (ha : pkv a) (h : m.2 1 (i / 3) = pk a) {b : Nat} (hb : b ≤ 24) : f_L_put (nI i) (nI b - 1) m = some (0, sG m 1 (upd (m.2 1) (i / 3) (pk (updN a (i % 3) b)))) := by
  obtain ⟨d1, d2⟩ := at_dec i hi
  have hc : (nI (i / 3)).toNatClampNeg = i / 3 := nI_clamp (by omega)
  unfold f_L_put
  rw [e_Lat hi ha h, d2, d1, if_pos ((ibN (by omega)).mpr (by omega)), Option.bind_some, if_pos ((ibN (by omega)).mpr (by omega)), hc, h, pk_put ha (by omega) hb]
  simp only [sA, hc]
theorem En_pres {m : St} {s : Nat → Int32} (h : En m s) {k : Nat} (hk : k < 24) (hp : s (7 * k) = 1) : ¬ m.2 2 k < 0 := fun q => by
  have := (h.1 k hk).1
  rw [if_pos q, hp] at this
  exact absurd this (by decide)
theorem En_abs {m : St} {s : Nat → Int32} (h : En m s) {k : Nat} (hk : k < 24) (hp : ¬ s (7 * k) = 1) : m.2 2 k < 0 := by
  by_cases q : m.2 2 k < 0
  · exact q
  · have := (h.1 k hk).1
    rw [if_neg q] at this
    exact absurd this hp
def okS (s : Nat → Int32) (x : Int32) : Prop := x = -1 ∨ ∃ k, k < 24 ∧ x = nI k ∧ s (7 * k) = 1
theorem okr_okS {p : Int32} {s : Nat → Int32} (hP : gP p s) {x : Int32} (h : okr p x) : okS s x := by
  rcases h with h | ⟨k, hk, e, h⟩
  · exact Or.inl h
  · exact Or.inr ⟨k, hk, e, by rw [hP k hk, h]; rfl⟩
theorem sG_inj {M : St} {a : Nat} {x y : Nat → Int32} (h : sG M a x = sG M a y) : x = y := by
  have := congrArg (fun q : St => q.2 a) h
  simpa only [sG_2] using this
theorem some_sG {M : St} {x y : Nat → Int32} (h : (some ((0 : Int32), sG M 0 x) : Option (Int32 × St)) = some (0, sG M 0 y)) : x = y := by
  injection h with h
  injection h with _ h
  exact sG_inj h
theorem i11_0 : ib 0 11 := by decide
theorem cl_0 : (0 : Int32).toNatClampNeg = 0 := by decide
theorem i11_1 : ib 1 11 := by decide
theorem cl_1 : (1 : Int32).toNatClampNeg = 1 := by decide
theorem i11_2 : ib 2 11 := by decide
theorem cl_2 : (2 : Int32).toNatClampNeg = 2 := by decide
theorem i11_3 : ib 3 11 := by decide
theorem cl_3 : (3 : Int32).toNatClampNeg = 3 := by decide
theorem i11_4 : ib 4 11 := by decide
theorem cl_4 : (4 : Int32).toNatClampNeg = 4 := by decide
theorem i11_5 : ib 5 11 := by decide
theorem cl_5 : (5 : Int32).toNatClampNeg = 5 := by decide
theorem i11_6 : ib 6 11 := by decide
theorem cl_6 : (6 : Int32).toNatClampNeg = 6 := by decide
theorem i11_7 : ib 7 11 := by decide
theorem cl_7 : (7 : Int32).toNatClampNeg = 7 := by decide
theorem i11_8 : ib 8 11 := by decide
theorem cl_8 : (8 : Int32).toNatClampNeg = 8 := by decide
theorem i11_9 : ib 9 11 := by decide
theorem cl_9 : (9 : Int32).toNatClampNeg = 9 := by decide
theorem i11_10 : ib 10 11 := by decide
theorem cl_10 : (10 : Int32).toNatClampNeg = 10 := by decide
