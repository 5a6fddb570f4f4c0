/-! PURE: what is reached, as a closure; the class's search and the model's come to the same set -/
/-- objects' fields: from k by field f to j -/
def edge (F : Nat → Int32) (k j : Nat) : Prop := ∃ f, f < 3 ∧ F (3 * k + f) = nI j
/-- R is the least set that holds S (but for what X takes out) and is closed under fields (but for that) -/
def IsCl (F : Nat → Int32) (S X : Nat → Prop) (R : Int32) : Prop :=
  S24 R ∧ (∀ j, j < 24 → S j → ¬ X j → tb R j = true) ∧ (∀ k j, k < 24 → j < 24 → tb R k = true → edge F k j → ¬ X j → tb R j = true) ∧
  ∀ C : Nat → Prop, (∀ j, j < 24 → S j → ¬ X j → C j) → (∀ k j, k < 24 → j < 24 → C k → edge F k j → ¬ X j → C j) → ∀ j, j < 24 → tb R j = true → C j
theorem IsCl_uniq {F : Nat → Int32} {S X : Nat → Prop} {R R' : Int32} (h : IsCl F S X R) (h' : IsCl F S X R') : R = R' := by
  refine S24_ext h.1 h'.1 (fun k hk => ?_)
  have h1 := h.2.2.2 (fun j => tb R' j = true) h'.2.1 h'.2.2.1 k hk
  have h2 := h'.2.2.2 (fun j => tb R j = true) h.2.1 h.2.2.1 k hk
  cases e : tb R k <;> cases e' : tb R' k
  · rfl
  · rw [h2 e'] at e; cases e
  · rw [h1 e] at e'; cases e'
  · rfl
theorem IsCl_congr {F F' : Nat → Int32} {S S' X X' : Nat → Prop} {R : Int32} (hS : ∀ j, j < 24 → (S j ↔ S' j)) (hX : ∀ j, j < 24 → (X j ↔ X' j)) (hF : ∀ k j, k < 24 → j < 24 → tb R k = true → (edge F k j ↔ edge F' k j)) (hF2 : ∀ k, k < 24 → tb R k = true → ∀ j, j < 24 → edge F' k j → edge F k j) (h : IsCl F S X R) : IsCl F' S' X' R := by
  obtain ⟨h0, h1, h2, h3⟩ := h
  refine ⟨h0, fun j hj a b => h1 j hj ((hS j hj).mpr a) (fun c => b ((hX j hj).mp c)), fun k j hk hj a b c => h2 k j hk hj a (hF2 k hk a j hj b) (fun d => c ((hX j hj).mp d)), fun C c1 c2 j hj hr => ?_⟩
  have := h3 (fun j => C j ∧ tb R j = true) (fun j hj a b => ⟨c1 j hj ((hS j hj).mp a) (fun c => b ((hX j hj).mpr c)), h1 j hj a b⟩) (fun k j hk hj a b c => ⟨c2 k j hk hj a.1 ((hF k j hk hj a.2).mp b) (fun d => c ((hX j hj).mpr d)), h2 k j hk hj a.2 b c⟩) j hj hr
  exact this.1
/-- the class: what a set's fields refer to -/
theorem behind_loop (x : Int32) (w : St) : ∀ (n k : Nat) (acc : Int32), k ≤ 72 → 72 - k < n → ∃ r, f_X1_behind_L4 n x acc (nI k) w = some (r, w) ∧ (S24 acc → S24 r) ∧ ∀ j, j < 24 → (tb r j = true ↔ tb acc j = true ∨ ∃ i, k ≤ i ∧ i < 72 ∧ tb x (i / 3) = true ∧ w.2 1 i = nI j) := by
  intro n
  induction n with
  | zero => intro k acc _ h; omega
  | succ n ih =>
    intro k acc hk hn
    by_cases h : k < 72
    · have hd : nI k / 3 = nI (k / 3) := nI_div3 h
      have h24 : k / 3 < 24 := by omega
      cases hb : tb x (k / 3)
      · obtain ⟨r, e, h0, hr⟩ := ih (k + 1) acc (by omega) (by omega)
        refine ⟨r, ?_, h0, fun j hj => ?_⟩
        · rw [f_X1_behind_L4]
          simp (disch := omega) only [ltL, h, if_true, hd, e_bit, Option.bind_some, (and_bI h24).mpr hb, addR]
          exact e
        · rw [hr j hj]
          constructor
          · rintro (a | ⟨i, a1, a2, a3, a4⟩)
            · exact Or.inl a
            · exact Or.inr ⟨i, by omega, a2, a3, a4⟩
          · rintro (a | ⟨i, a1, a2, a3, a4⟩)
            · exact Or.inl a
            · refine Or.inr ⟨i, ?_, a2, a3, a4⟩
              by_cases e : i = k
              · subst e; rw [hb] at a3; cases a3
              · omega
      · have hz : (x &&& bI (nI (k / 3)) = 0) = False := eq_false (fun q => by rw [(and_bI h24).mp q] at hb; cases hb)
        obtain ⟨r, e, h0, hr⟩ := ih (k + 1) (acc ||| bI (w.2 1 k)) (by omega) (by omega)
        refine ⟨r, ?_, fun q => h0 (S24_or q (S24_bI _)), fun j hj => ?_⟩
        · rw [f_X1_behind_L4]
          simp (disch := omega) only [ltL, h, if_true, if_false, hd, e_bit, Option.bind_some, hz, addR, ibN, clN]
          exact e
        · rw [hr j hj, tb_or, Bool.or_eq_true, tb_bI_iff]
          constructor
          · rintro ((a | ⟨_, a⟩) | ⟨i, a1, a2, a3, a4⟩)
            · exact Or.inl a
            · exact Or.inr ⟨k, Nat.le_refl k, h, hb, a⟩
            · exact Or.inr ⟨i, by omega, a2, a3, a4⟩
          · rintro (a | ⟨i, a1, a2, a3, a4⟩)
            · exact Or.inl (Or.inl a)
            · by_cases e : i = k
              · subst e; exact Or.inl (Or.inr ⟨hj, a4⟩)
              · exact Or.inr ⟨i, by omega, a2, a3, a4⟩
    · have h72 : k = 72 := by omega
      subst h72
      refine ⟨acc, ?_, fun q => q, fun j hj => ⟨Or.inl, fun q => q.elim id (fun ⟨i, a1, a2, _⟩ => by omega)⟩⟩
      rw [f_X1_behind_L4]
      simp (disch := omega) only [ltL, if_false, Nat.lt_irrefl]
theorem e_behind (x : Int32) (w : St) : ∃ r, f_X1_behind x w = some (r, w) ∧ S24 r ∧ ∀ j, j < 24 → (tb r j = true ↔ ∃ k, k < 24 ∧ tb x k = true ∧ edge (w.2 1) k j) := by
  obtain ⟨r, e, h0, hr⟩ := behind_loop x w BIG 0 0 (by omega) (by unfold BIG; omega)
  refine ⟨r, ?_, h0 S24_0, fun j hj => ?_⟩
  · unfold f_X1_behind
    rw [show (0 : Int32) = nI 0 from rfl] at e ⊢
    rw [e]
    rfl
  · rw [hr j hj, tb_0]
    constructor
    · rintro (a | ⟨i, _, a2, a3, a4⟩)
      · cases a
      · exact ⟨i / 3, by omega, a3, i % 3, by omega, by rw [show 3 * (i / 3) + i % 3 = i by omega]; exact a4⟩
    · rintro ⟨k, hk, a, f, hf, b⟩
      exact Or.inr ⟨3 * k + f, by omega, by omega, by rw [show (3 * k + f) / 3 = k by omega]; exact a, b⟩
def c24 (x : Int32) : Nat := cnt (tb x) 24
theorem c24_le (x : Int32) : c24 x ≤ 24 := cnt_le _ _
theorem eq_sub {x y : Int32} (hx : S24 x) (hy : S24 y) (h : ∀ k, k < 24 → tb x k = true → tb y k = true) (hc : ¬ x = y) : c24 x < c24 y := by
  by_cases q : ∃ k, k < 24 ∧ tb x k = false ∧ tb y k = true
  · obtain ⟨k, hk, h1, h2⟩ := q
    exact cnt_lt h hk h1 h2
  · refine absurd (S24_ext hx hy (fun k hk => ?_)) hc
    cases e : tb x k <;> cases e' : tb y k
    · rfl
    · exact absurd ⟨k, hk, e, e'⟩ q
    · rw [h k hk e] at e'; cases e'
    · rfl
/-- the class's rounds: wo is what is left out -/
theorem rf_loop (w : St) (S X : Nat → Prop) (wo : Int32) (hX : ∀ j, j < 24 → (X j ↔ tb wo j = true)) : ∀ (n k : Nat) (rd wd : Int32), k ≤ 24 → 24 - k < n → S24 wd → S24 rd →
    (∀ j, j < 24 → S j → ¬ X j → tb wd j = true) → (∀ j, j < 24 → tb rd j = true → tb wd j = true) →
    (∀ a j, a < 24 → j < 24 → tb rd a = true → edge (w.2 1) a j → ¬ X j → tb wd j = true) →
    (∀ C : Nat → Prop, (∀ j, j < 24 → S j → ¬ X j → C j) → (∀ k j, k < 24 → j < 24 → C k → edge (w.2 1) k j → ¬ X j → C j) → ∀ j, j < 24 → tb wd j = true → C j) →
    (wd = rd ∨ k ≤ c24 rd + (if k = 0 then 0 else 0) ∧ (k = 0 ∨ k ≤ c24 rd)) →
    ∃ R, f_X1_reachedFrom_L12 n wo rd wd (nI k) w = some (R, w) ∧ IsCl (w.2 1) S X R := by
  intro n
  induction n with
  | zero => intro k rd wd _ h; omega
  | succ n ih =>
    intro k rd wd hk hn hwd hrd h1 h2 h3 h4 h5
    by_cases he : wd = rd
    · refine ⟨wd, ?_, hwd, h1, fun a j ha hj q e x => h3 a j ha hj (he ▸ q) e x, h4⟩
      rw [f_X1_reachedFrom_L12]
      by_cases hk2 : k < 24
      · simp (disch := omega) only [ltL, hk2, if_true, he]
      · simp (disch := omega) only [ltL, hk2, if_false]
    · have hc : c24 rd < c24 wd := eq_sub hrd hwd h2 (fun q => he q.symm)
      have hk24 : k < 24 := by
        have := c24_le wd
        rcases h5 with h5 | h5
        · exact absurd h5 he
        · omega
      obtain ⟨b, eb, hb0, hb⟩ := e_behind wd w
      have tn : ∀ j, j < 24 → (tb (wd ||| (b &&& (wo ^^^ (-1)))) j = true ↔ tb wd j = true ∨ (tb b j = true ∧ ¬ X j)) := by
        intro j hj
        rw [tb_or, tb_and, tb_not _ (by omega), Bool.or_eq_true, Bool.and_eq_true, hX j hj]
        cases tb wo j <;> simp
      obtain ⟨R, e, hR⟩ := ih (k + 1) wd (wd ||| (b &&& (wo ^^^ (-1)))) (by omega) (by omega) (S24_or hwd (S24_and hb0)) hwd
        (fun j hj a c => (tn j hj).mpr (Or.inl (h1 j hj a c))) (fun j hj a => (tn j hj).mpr (Or.inl a))
        (fun a j ha hj q ed x => (tn j hj).mpr (Or.inr ⟨(hb j hj).mpr ⟨a, ha, q, ed⟩, x⟩))
        (fun C c1 c2 j hj q => by
          rcases (tn j hj).mp q with q | ⟨q, x⟩
          · exact h4 C c1 c2 j hj q
          · obtain ⟨a, ha, qa, ed⟩ := (hb j hj).mp q
            exact c2 a j ha hj (h4 C c1 c2 a ha qa) ed x)
        (Or.inr (by
          have : k ≤ c24 rd ∨ k = 0 := by
            rcases h5 with h5 | h5
            · exact absurd h5 he
            · exact h5.2.symm
          simp
          omega))
      refine ⟨R, ?_, hR⟩
      rw [f_X1_reachedFrom_L12]
      simp (disch := omega) only [ltL, hk24, if_true, if_false, he, eb, Option.bind_some, addR]
      exact e
