/-! PURE: what the colours promise, and how it lasts -/
theorem PW_tr {g b g' b' : Int32} {F F' : Nat → Int32}
    (hA : ∀ y x, y < 24 → x < 24 → tb g y = true → edge F y x → ¬ nw g b x → ¬ nw g' b' x → edge F' y x ∧ tb g' y = true)
    (hB : ∀ y x, y < 24 → x < 24 → ¬ nw g b y → edge F y x → ¬ nw g b x → ¬ nw g' b' x → edge F' y x)
    (hC : ∀ y z, y < 24 → z < 24 → edge F z y → ¬ nw g b y → nw g' b' y → tb g' y = true) :
    ∀ n x, x < 24 → PW g b F n x → nw g' b' x ∨ ∃ n', PW g' b' F' n' x := by
  intro n
  induction n with
  | zero => intro x _ h; exact h.elim
  | succ n ih =>
    intro x hx h
    obtain ⟨h1, y, hy, he, h2⟩ := h
    by_cases q : nw g' b' x
    · exact Or.inl q
    refine Or.inr ?_
    rcases h2 with h2 | h2
    · obtain ⟨a1, a2⟩ := hA y x hy hx h2 he h1 q
      exact ⟨1, q, y, hy, a1, Or.inl a2⟩
    · have hny : ¬ nw g b y := by
        cases n with
        | zero => exact h2.elim
        | succ n => exact h2.1
      have hz : ∃ z, z < 24 ∧ edge F z y := by
        cases n with
        | zero => exact h2.elim
        | succ n => obtain ⟨_, z, hz, hez, _⟩ := h2; exact ⟨z, hz, hez⟩
      obtain ⟨z, hz, hez⟩ := hz
      have e1 := hB y x hy hx hny he h1 q
      rcases ih y hy h2 with c | ⟨n', c⟩
      · exact ⟨1, q, y, hy, e1, Or.inl (hC y z hy hz hez hny c)⟩
      · exact ⟨n' + 1, q, y, hy, e1, Or.inr c⟩
theorem safe_tr {care g b g' b' : Int32} {F F' : Nat → Int32} (hn : ∀ x, x < 24 → nw g b x → nw g' b' x) (hp : care = 2 → ∀ n x, x < 24 → PW g b F n x → nw g' b' x ∨ ∃ n', PW g' b' F' n' x) {x : Nat} (hx : x < 24) (h : safe care g b F x) : safe care g' b' F' x := by
  rcases h with h | ⟨h1, n, h2⟩
  · exact Or.inl (hn x hx h)
  · rcases hp h1 n x hx h2 with c | c
    · exact Or.inl c
    · exact Or.inr ⟨h1, c⟩
theorem safe_g {care g b g' : Int32} {F : Nat → Int32} (hg : ∀ j, tb g j = true → tb g' j = true) {x : Nat} (hx : x < 24) (h : safe care g b F x) : safe care g' b F x := by
  refine safe_tr (fun y _ q => q.elim (fun q => Or.inl (hg y q)) Or.inr) (fun _ => PW_tr (fun y x _ _ q e _ _ => ⟨e, hg y q⟩) (fun y x _ _ _ e _ _ => e) (fun y z _ _ _ q1 q2 => ?_)) hx h
  rcases q2 with q2 | q2
  · exact q2
  · exact absurd (Or.inr q2) q1
theorem gM_g {care g b g' : Int32} {F R : Nat → Int32} {li : List Nat} (hg : ∀ j, tb g j = true → tb g' j = true) (h : gM care g b F R li) : gM care g' b F R li :=
  ⟨fun k hk => (h.1 k hk).elim (fun q => Or.inl (hg k q)) Or.inr, fun k hk q => safe_g hg hk (h.2.1 k hk q), fun k j hk hj q e => safe_g hg hj (h.2.2 k j hk hj q e)⟩
theorem rootS_upd {R : Nat → Int32} {i : Nat} {to : Int32} {k : Nat} (h : rootS (upd R i to) k) : rootS R k ∨ to = nI k := by
  obtain ⟨j, hj, e⟩ := h
  by_cases q : j = i
  · subst q; rw [upd_eq] at e; exact Or.inr e
  · rw [upd_ne q] at e; exact Or.inl ⟨j, hj, e⟩
theorem gM_root {care g b : Int32} {F R : Nat → Int32} {li : List Nat} (h : gM care g b F R li) {i : Nat} {to : Int32} (ht : ∀ k, k < 24 → to = nI k → safe care g b F k) : gM care g b F (upd R i to) li :=
  ⟨h.1, fun k hk q => (rootS_upd q).elim (h.2.1 k hk) (ht k hk), h.2.2⟩
theorem edge_upd {F : Nat → Int32} {k f : Nat} (hf : f < 3) {to : Int32} {y x : Nat} (h : edge (upd F (3 * k + f) to) y x) : edge F y x ∨ (y = k ∧ to = nI x) := by
  obtain ⟨f0, hf0, e⟩ := h
  by_cases q : 3 * y + f0 = 3 * k + f
  · rw [q, upd_eq] at e; exact Or.inr ⟨by omega, e⟩
  · rw [upd_ne q] at e; exact Or.inl ⟨f0, hf0, e⟩
theorem safe_field {care g b g' : Int32} {F : Nat → Int32} {k f : Nat} {to : Int32} (hg : ∀ j, tb g j = true → tb g' j = true) (h2 : care = 2 → ¬ F (3 * k + f) = to → ∀ j, j < 24 → F (3 * k + f) = nI j → nw g' b j) {x : Nat} (hx : x < 24) (h : safe care g b F x) : safe care g' b (upd F (3 * k + f) to) x := by
  have keep : care = 2 → ∀ y x, x < 24 → edge F y x → ¬ nw g' b x → edge (upd F (3 * k + f) to) y x := by
    intro hc y x hx e q
    obtain ⟨f0, hf0, e⟩ := e
    refine ⟨f0, hf0, ?_⟩
    by_cases z : 3 * y + f0 = 3 * k + f
    · rw [z, upd_eq]
      rw [z] at e
      by_cases t : F (3 * k + f) = to
      · rw [← t]; exact e
      · exact absurd (h2 hc t x hx e) q
    · rw [upd_ne z]; exact e
  refine safe_tr (fun y _ q => q.elim (fun q => Or.inl (hg y q)) Or.inr) (fun hc => PW_tr (fun y x _ hx q e _ q2 => ⟨keep hc y x hx e q2, hg y q⟩) (fun y x _ hx _ e _ q2 => keep hc y x hx e q2) (fun y z _ _ _ q1 q2 => ?_)) hx h
  rcases q2 with q2 | q2
  · exact q2
  · exact absurd (Or.inr q2) q1
theorem gM_field {care g b g' : Int32} {F R : Nat → Int32} {li : List Nat} {k f : Nat} {to : Int32} (hf : f < 3) (h : gM care g b F R li) (hg : ∀ j, tb g j = true → tb g' j = true) (h2 : care = 2 → ¬ F (3 * k + f) = to → ∀ j, j < 24 → F (3 * k + f) = nI j → nw g' b j) (ht : tb b k = true → ∀ j, j < 24 → to = nI j → safe care g' b (upd F (3 * k + f) to) j) : gM care g' b (upd F (3 * k + f) to) R li := by
  refine ⟨fun k hk => (h.1 k hk).elim (fun q => Or.inl (hg k q)) Or.inr, fun k hk q => safe_field hg h2 hk (h.2.1 k hk q), fun y j hy hj q e => ?_⟩
  rcases edge_upd hf e with e | ⟨e1, e2⟩
  · exact safe_field hg h2 hj (h.2.2 y j hy hj q e)
  · subst e1; exact ht q j hj e2
/-- under the second care, what is reached is safe -/
theorem reach_safe {g b : Int32} {F R : Nat → Int32} {li : List Nat} {Q : Int32} (h : gM 2 g b F R li) (hQ : IsCl F (fun j => rootS R j ∨ j ∈ li) noX Q) {j : Nat} (hj : j < 24) (hq : tb Q j = true) : safe 2 g b F j := by
  refine hQ.2.2.2 (fun j => safe 2 g b F j) (fun j hj a _ => a.elim (h.2.1 j hj) (fun a => Or.inl (h.1 j a))) (fun k j hk hj a e _ => ?_) j hj hq
  by_cases q : nw g b j
  · exact Or.inl q
  rcases a with (a | a) | ⟨_, n, a⟩
  · exact Or.inr ⟨rfl, 1, q, k, hk, e, Or.inl a⟩
  · exact h.2.2 k j hk hj a e
  · exact Or.inr ⟨rfl, n + 1, q, k, hk, e, Or.inr a⟩
/-- in sweeping, what is reached is kept -/
theorem reach_kept {p g b : Int32} {f : Nat} {F R Hd : Nat → Int32} {li : List Nat} {Q : Int32} (h : gK3 p g b f F R Hd li) (hp : ∀ j, j < 24 → tb Q j = true → tb p j = true) (hQ : IsCl F (fun j => rootS R j ∨ j ∈ li) noX Q) {j : Nat} (hj : j < 24) (hq : tb Q j = true) : kept b f j := by
  obtain ⟨_, _, h3, h4, _, h6⟩ := h
  have := hQ.2.2.2 (fun j => kept b f j ∧ tb Q j = true) (fun j hj a b => ⟨a.elim (h4 j hj) (h3 j), hQ.2.1 j hj a b⟩) (fun k j hk hj a e x => ⟨h6 k j hk hj (hp k hk a.2) a.1 e, hQ.2.2.1 k j hk hj a.2 e x⟩) j hj hq
  exact this.1
theorem gK3_root {p g b : Int32} {f : Nat} {F R Hd : Nat → Int32} {li : List Nat} (h : gK3 p g b f F R Hd li) {i : Nat} {to : Int32} (ht : ∀ k, k < 24 → to = nI k → kept b f k) : gK3 p g b f F (upd R i to) Hd li :=
  ⟨h.1, h.2.1, h.2.2.1, fun k hk q => (rootS_upd q).elim (h.2.2.2.1 k hk) (ht k hk), h.2.2.2.2⟩
theorem gK3_holder {p g b : Int32} {f : Nat} {F R Hd : Nat → Int32} {li : List Nat} (h : gK3 p g b f F R Hd li) {i : Nat} {to : Int32} (ht : ∀ k, k < 24 → to = nI k → kept b f k) : gK3 p g b f F R (upd Hd i to) li :=
  ⟨h.1, h.2.1, h.2.2.1, h.2.2.2.1, fun k hk q => (rootS_upd q).elim (h.2.2.2.2.1 k hk) (ht k hk), h.2.2.2.2.2⟩
theorem gK3_field {p g b : Int32} {fr : Nat} {F R Hd : Nat → Int32} {li : List Nat} (h : gK3 p g b fr F R Hd li) {k f : Nat} (hf : f < 3) {to : Int32} (ht : ∀ k, k < 24 → to = nI k → kept b fr k) : gK3 p g b fr (upd F (3 * k + f) to) R Hd li :=
  ⟨h.1, h.2.1, h.2.2.1, h.2.2.2.1, h.2.2.2.2.1, fun y j hy hj hp q e => (edge_upd hf e).elim (h.2.2.2.2.2 y j hy hj hp q) (fun e => ht j hj e.2)⟩
/-- nothing is grey: what is safe is black -/
theorem PW_none {b : Int32} {F : Nat → Int32} : ∀ n x, ¬ PW 0 b F n x := by
  intro n
  induction n with
  | zero => intro x h; exact h
  | succ n ih =>
    rintro x ⟨_, y, _, _, h | h⟩
    · rw [tb_0] at h; cases h
    · exact ih y h
theorem safe_none {care b : Int32} {F : Nat → Int32} {k : Nat} (h : safe care 0 b F k) : tb b k = true := by
  rcases h with (h | h) | ⟨_, n, h⟩
  · rw [tb_0] at h; cases h
  · exact h
  · exact absurd h (PW_none n k)
/-- the first of the row is scanned: it becomes black, its fields' objects are shaded -/
theorem gM_mark {care g b g' g2 b2 : Int32} {F R : Nat → Int32} {li : List Nat} {k : Nat} (h : gM care g b F R li) (hk : tb g k = true) (hg : ∀ j, tb g j = true → tb g' j = true) (hs : ∀ j, j < 24 → edge F k j → nw g' b j)
    (hg2 : ∀ j, tb g2 j = true ↔ tb g' j = true ∧ j ≠ k) (hb2 : ∀ j, tb b2 j = true ↔ tb b j = true ∨ j = k) : gM care g2 b2 F R li := by
  have nwi : ∀ j, nw g' b j → nw g2 b2 j := by
    intro j q
    by_cases e : j = k
    · exact Or.inr ((hb2 j).mpr (Or.inr e))
    · exact q.elim (fun q => Or.inl ((hg2 j).mpr ⟨q, e⟩)) (fun q => Or.inr ((hb2 j).mpr (Or.inl q)))
  have nwj : ∀ j, nw g b j → nw g2 b2 j := fun j q => nwi j (q.elim (fun q => Or.inl (hg j q)) Or.inr)
  have tr : ∀ j, j < 24 → safe care g b F j → safe care g2 b2 F j := by
    intro j hj q
    refine safe_tr (fun x _ q => nwj x q) (fun _ => PW_tr (fun y x _ hx q1 e _ q2 => ⟨e, ?_⟩) (fun y x _ _ _ e _ _ => e) (fun y z _ _ _ q1 q2 => ?_)) hj q
    · refine (hg2 y).mpr ⟨hg y q1, fun ey => ?_⟩
      subst ey
      exact q2 (nwi x (hs x hx e))
    · rcases q2 with q2 | q2
      · exact q2
      · rcases (hb2 y).mp q2 with q2 | q2
        · exact absurd (Or.inr q2) q1
        · subst q2; exact absurd (Or.inl hk) q1
  refine ⟨fun j hj => nwj j (h.1 j hj), fun j hj q => tr j hj (h.2.1 j hj q), fun y j hy hj q e => ?_⟩
  rcases (hb2 y).mp q with q | q
  · exact tr j hj (h.2.2 y j hy hj q e)
  · subst q; exact Or.inl (nwi j (hs j hj e))
/-- a new object, black, that nothing refers to and that refers to nothing -/
theorem gM_new {care g b b2 : Int32} {F R : Nat → Int32} {li : List Nat} {k : Nat} (h : gM care g b F R li) (hb2 : ∀ j, tb b2 j = true ↔ tb b j = true ∨ j = k) (hin : ∀ y, y < 24 → ¬ edge F y k) (hout : ∀ x, x < 24 → ¬ edge F k x) : gM care g b2 F R li := by
  have nwj : ∀ j, nw g b j → nw g b2 j := fun j q => q.elim Or.inl (fun q => Or.inr ((hb2 j).mpr (Or.inl q)))
  have tr : ∀ j, j < 24 → safe care g b F j → safe care g b2 F j := by
    intro j hj q
    refine safe_tr (fun x _ q => nwj x q) (fun _ => PW_tr (fun y x _ _ q1 e _ _ => ⟨e, q1⟩) (fun y x _ _ _ e _ _ => e) (fun y z _ hz e q1 q2 => ?_)) hj q
    rcases q2 with q2 | q2
    · exact q2
    · rcases (hb2 y).mp q2 with q2 | q2
      · exact absurd (Or.inr q2) q1
      · subst q2; exact absurd e (hin z hz)
  refine ⟨fun j hj => nwj j (h.1 j hj), fun j hj q => tr j hj (h.2.1 j hj q), fun y j hy hj q e => ?_⟩
  rcases (hb2 y).mp q with q | q
  · exact tr j hj (h.2.2 y j hy hj q e)
  · subst q; exact absurd e (hout j hj)
