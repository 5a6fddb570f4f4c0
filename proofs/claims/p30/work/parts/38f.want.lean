/-! PURE: want; sets counted -/
theorem cnt_32 {x : Int32} (h : S24 x) : cnt (tb x) 32 = cnt (tb x) 24 := by
  have e : ∀ n, cnt (tb x) (24 + n) = cnt (tb x) 24 := by
    intro n
    induction n with
    | zero => rfl
    | succ n ih =>
      show cnt (tb x) (24 + n) + (if tb x (24 + n) then 1 else 0) = _
      rw [ih, h (24 + n) (by omega)]
      rfl
  exact e 8
theorem wanting_loop {p wn : Int32} {m : St} (hP : gP p (m.2 0)) (hW : gW p wn (m.2 0)) (hs : ∀ k, tb wn k = true → tb p k = true) : ∀ (n k : Nat), k ≤ 24 → 24 - k < n → f_X7_wanting_L4 n (nI (cnt (tb wn) k)) (nI k) m = some (nI (cnt (tb wn) 24), m) := by
  intro n
  induction n with
  | zero => intro k _ h; omega
  | succ n ih =>
    intro k hk hn
    by_cases h : k < 24
    · have e : cnt (tb wn) (k + 1) = cnt (tb wn) k + (if tb wn k then 1 else 0) := rfl
      have := ih (k + 1) (by omega) (by omega)
      rw [e] at this
      rw [f_X7_wanting_L4]
      cases z : tb p k
      · have h0 : m.2 0 (7 * k) = 0 := by rw [hP k h, z]; rfl
        have hw : tb wn k = false := by
          cases q : tb wn k
          · rfl
          · rw [hs k q] at z; cases z
        rw [hw] at this
        simp (disch := omega) only [ltL, h, if_true, e_of0 h, Option.bind_some, h0, addR]
        rw [if_neg (by decide)]
        exact this
      · have h0 : m.2 0 (7 * k) = 1 := by rw [hP k h, z]; rfl
        simp (disch := omega) only [ltL, h, if_true, e_of0 h, Option.bind_some, h0, e_of4 h, addR]
        rw [← nI_add] at this
        rw [hW k h z]
        cases q : tb wn k
        · rw [q] at this; exact this
        · rw [q] at this; exact this
    · have h3 : k = 24 := by omega
      subst h3
      rw [f_X7_wanting_L4]
      simp (disch := omega) only [ltL, if_false, Nat.lt_irrefl]
theorem e_wanting {p wn : Int32} {m : St} (hP : gP p (m.2 0)) (hW : gW p wn (m.2 0)) (hs : ∀ k, tb wn k = true → tb p k = true) : f_X7_wanting m = some (nI (cnt (tb wn) 24), m) := by
  unfold f_X7_wanting
  rw [show f_X7_wanting_L4 BIG 0 0 m = _ from wanting_loop hP hW hs BIG 0 (by omega) (by unfold BIG; omega)]
  rfl
theorem want_step {w m m' : St} {B : Nat} (h : Sim w (m.2 0) B) (hc : f_X7_changes m = some (0, m')) (h0 : m'.2 0 = m.2 0) (x : Int32) : ChS w m m' B (f_X5_wishFinish x w) (f_X7_want x m) := by
  obtain ⟨rw, li, hS⟩ := h
  have hP := hS.1.2.1
  have hW := hS.1.2.2.2.1
  obtain ⟨Q, e1, e2, c1, c2⟩ := reach_both hS.1
  rcases hasI_iff (p := w.1 13) (x := x) with ⟨hx, k, hk, rfl, hp⟩ | ⟨hx, _⟩
  · have key : (bI (nI k) &&& Q) &&& (w.1 14 ^^^ (-1)) = 0 ↔ (tb Q k = false ∨ tb (w.1 14) k = true) := by
      rw [Int32.and_assoc, bI_and hk, tb_and, tb_not _ (by omega)]
      cases tb Q k <;> cases tb (w.1 14) k <;> simp
    have h4 : m.2 0 (7 * k + 4) = if tb (w.1 14) k then 1 else 0 := hW k hk hp
    cases hq : tb Q k
    · refine Or.inl ⟨-12, no_12, ?_, ?_⟩
      · unfold f_X5_wishFinish
        simp only [e_has, hx, Option.bind_some, oz, if_false, e_bit, e1]
        rw [if_pos (key.mpr (Or.inl hq))]
      · unfold f_X7_want
        simp only [e_isObject hP, hx, Option.bind_some, oz, if_false, e_isReached e2 hk, hq, Bool.false_eq_true, if_true]
    · cases hw : tb (w.1 14) k
      · have hS1 := want_on hS.1 hk hp
        have hp' : tb (w.1 13) k = true := hp
        have a1 := hS1.2.1
        have a2 := hS1.2.2.2.1
        have a3 := hS1.1.2.2.2.2.1
        have a4 := hS1.1.2.1
        refine Or.inr ⟨nI (cnt (tb (w.1 14 ||| bI (nI k))) 24), sR w 14 (w.1 14 ||| bI (nI k)), upd (m.2 0) (7 * k + 4) 1, ok_nI (by have := cnt_le (tb (w.1 14 ||| bI (nI k))) 24; omega), ?_, ?_, ⟨rw, li, SimB_mono (Nat.le_succ B) hS1, hS.2⟩, fun r hr => ?_, rfl⟩
        · unfold f_X5_wishFinish
          simp only [e_has, hx, Option.bind_some, oz, if_false, e_bit, e1]
          rw [if_neg (fun q => by have := key.mp q; rw [hq, hw] at this; simp at this)]
          rw [e_pop, cnt_32 (x := w.1 14 ||| bI (nI k)) a4]
          rfl
        · unfold f_X7_want
          simp only [e_isObject hP, hx, Option.bind_some, oz, if_false, e_isReached e2 hk, hq, if_true, e_of4 hk, h4, hw, Bool.false_eq_true]
          rw [if_neg (by decide), hc]
          simp only [Option.bind_some]
          rw [show f_X7_sets (nI k) 4 1 m' = some (0, sG m' 0 (upd (m'.2 0) (7 * k + 4) 1)) from e_sets (j := 4) (by omega) 1, h0]
          simp only [Option.bind_some]
          rw [e_wanting (p := w.1 13) (wn := w.1 14 ||| bI (nI k)) (by rw [sG_2]; exact a1) (by rw [sG_2]; exact a2) a3]
          rfl
        · show (if r = 14 then _ else w.1 r) = w.1 r
          rw [if_neg (by omega)]
      · refine Or.inl ⟨-12, no_12, ?_, ?_⟩
        · unfold f_X5_wishFinish
          simp only [e_has, hx, Option.bind_some, oz, if_false, e_bit, e1]
          rw [if_pos (key.mpr (Or.inr hw))]
        · unfold f_X7_want
          simp only [e_isObject hP, hx, Option.bind_some, oz, if_false, e_isReached e2 hk, hq, if_true, e_of4 hk, h4, hw]
  · refine Or.inl ⟨-11, no_11, ?_, ?_⟩
    · unfold f_X5_wishFinish
      simp only [e_has, hx, Option.bind_some, if_true]
    · unfold f_X7_want
      simp only [e_isObject hP, hx, Option.bind_some, if_true]
/-- a set of the model: those present with a number equal to v -/
theorem those_loop {p : Int32} {m : St} (hP : gP p (m.2 0)) {j : Nat} (hj : j < 7) (v : Int32) : ∀ (n k : Nat) (acc : Int32), k ≤ 24 → 24 - k < n → S24 acc → ∃ r, f_X7_those_L5 n (nI j) v acc (nI k) m = some (r, m) ∧ S24 r ∧ ∀ i, i < 24 → (tb r i = true ↔ tb acc i = true ∨ (k ≤ i ∧ tb p i = true ∧ m.2 0 (7 * i + j) = v)) := by
  intro n
  induction n with
  | zero => intro k acc _ h; omega
  | succ n ih =>
    intro k acc hk hn h24
    by_cases h : k < 24
    · have skip : (¬ (tb p k = true ∧ m.2 0 (7 * k + j) = v)) → f_X7_those_L5 (n + 1) (nI j) v acc (nI k) m = f_X7_those_L5 n (nI j) v acc (nI (k + 1)) m → ∃ r, f_X7_those_L5 (n + 1) (nI j) v acc (nI k) m = some (r, m) ∧ S24 r ∧ ∀ i, i < 24 → (tb r i = true ↔ tb acc i = true ∨ (k ≤ i ∧ tb p i = true ∧ m.2 0 (7 * i + j) = v)) := by
        intro hno e
        obtain ⟨r, e1, r1, r2⟩ := ih (k + 1) acc (by omega) (by omega) h24
        refine ⟨r, e.trans e1, r1, fun i hi => ?_⟩
        rw [r2 i hi]
        constructor
        · rintro (a | ⟨a, b⟩)
          · exact Or.inl a
          · exact Or.inr ⟨by omega, b⟩
        · rintro (a | ⟨a, b⟩)
          · exact Or.inl a
          · by_cases z : i = k
            · subst z; exact absurd b hno
            · exact Or.inr ⟨by omega, b⟩
      cases z : tb p k
      · refine skip (fun q => by rw [z] at q; exact absurd q.1 (by decide)) ?_
        rw [f_X7_those_L5]
        simp (disch := omega) only [ltL, h, if_true, e_isObject hP, hasI_nI h, z, Bool.false_eq_true, if_false, Option.bind_some, or_0, addR]
      · by_cases q : m.2 0 (7 * k + j) = v
        · obtain ⟨r, e1, r1, r2⟩ := ih (k + 1) (acc ||| bI (nI k)) (by omega) (by omega) (S24_or h24 (S24_bI _))
          refine ⟨r, ?_, r1, fun i hi => ?_⟩
          · rw [f_X7_those_L5]
            simp (disch := omega) only [ltL, h, if_true, e_isObject hP, hasI_nI h, z, oz, if_false, Option.bind_some, e_of (show 7 * k + j < 235 by omega), q, sh_bI h, addR]
            exact e1
          · rw [r2 i hi, tb_add h]
            constructor
            · rintro ((a | a) | ⟨a, b⟩)
              · exact Or.inl a
              · subst a; exact Or.inr ⟨Nat.le_refl _, z, q⟩
              · exact Or.inr ⟨by omega, b⟩
            · rintro (a | ⟨a, b⟩)
              · exact Or.inl (Or.inl a)
              · by_cases y : i = k
                · exact Or.inl (Or.inr y)
                · exact Or.inr ⟨by omega, b⟩
        · refine skip (fun y => q y.2) ?_
          rw [f_X7_those_L5]
          simp (disch := omega) only [ltL, h, if_true, e_isObject hP, hasI_nI h, z, oz, if_false, Option.bind_some, e_of (show 7 * k + j < 235 by omega), q, or_0, addR]
    · have h3 : k = 24 := by omega
      subst h3
      refine ⟨acc, ?_, h24, fun i hi => ⟨Or.inl, fun q => q.elim id (fun q => by omega)⟩⟩
      rw [f_X7_those_L5]
      simp (disch := omega) only [ltL, if_false, Nat.lt_irrefl]
theorem e_those {p X : Int32} {m : St} (hP : gP p (m.2 0)) {j : Nat} (hj : j < 7) {v : Int32} (hX : S24 X) (h : ∀ i, i < 24 → (tb X i = true ↔ tb p i = true ∧ m.2 0 (7 * i + j) = v)) : f_X7_those (nI j) v m = some (X, m) := by
  obtain ⟨r, e, r1, r2⟩ := those_loop hP hj v BIG 0 0 (by omega) (by unfold BIG; omega) S24_0
  have : r = X := by
    refine S24_ext r1 hX (fun i hi => bool_eq_iff ?_)
    rw [r2 i hi, h i hi, tb_0]
    constructor
    · rintro (a | ⟨_, a⟩)
      · cases a
      · exact a
    · exact fun a => Or.inr ⟨Nat.zero_le i, a⟩
  subst this
  unfold f_X7_those
  rw [show f_X7_those_L5 BIG (nI j) v 0 0 m = some (r, m) from e]
  rfl
