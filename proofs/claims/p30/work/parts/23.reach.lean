/-! PURE: the class's reached sets; the model's -/
theorem e_reachedFrom (x1 x2 : Int32) (h1 : S24 x1) (w : St) : ∃ R, f_X1_reachedFrom x1 x2 w = some (R, w) ∧ IsCl (w.2 1) (fun j => tb x1 j = true) (fun j => tb x2 j = true) R := by
  have t : ∀ j, j < 24 → (tb (x1 &&& (x2 ^^^ (-1))) j = true ↔ tb x1 j = true ∧ ¬ tb x2 j = true) := by
    intro j hj
    rw [tb_and, tb_not _ (by omega), Bool.and_eq_true]
    cases tb x2 j <;> simp
  obtain ⟨R, e, hR⟩ := rf_loop w (fun j => tb x1 j = true) (fun j => tb x2 j = true) x2 (fun _ _ => Iff.rfl) BIG 0 0 (x1 &&& (x2 ^^^ (-1))) (by omega) (by unfold BIG; omega) (S24_and h1) S24_0
    (fun j hj a b => (t j hj).mpr ⟨a, b⟩) (fun j _ a => by rw [tb_0] at a; cases a) (fun a j _ _ q => by rw [tb_0] at q; cases q) (fun C c1 _ j hj q => c1 j hj ((t j hj).mp q).1 ((t j hj).mp q).2) (Or.inr ⟨Nat.zero_le _, Or.inl rfl⟩)
  refine ⟨R, ?_, hR⟩
  unfold f_X1_reachedFrom
  rw [show (f_X1_reachedFrom_L12 BIG x2 0 (x1 &&& (x2 ^^^ (-1))) 0 w) = some (R, w) from e]
  rfl
theorem roots_loop (w : St) : ∀ (n k : Nat) (acc : Int32), k ≤ 4 → 4 - k < n → ∃ r, f_X1_setOfRoots_L4 n acc (nI k) w = some (r, w) ∧ (S24 acc → S24 r) ∧ ∀ j, j < 24 → (tb r j = true ↔ tb acc j = true ∨ ∃ i, k ≤ i ∧ i < 4 ∧ w.2 2 i = nI j) := by
  intro n
  induction n with
  | zero => intro k acc _ h; omega
  | succ n ih =>
    intro k acc hk hn
    by_cases h : k < 4
    · obtain ⟨r, e, h0, hr⟩ := ih (k + 1) (acc ||| bI (w.2 2 k)) (by omega) (by omega)
      refine ⟨r, ?_, fun q => h0 (S24_or q (S24_bI _)), fun j hj => ?_⟩
      · rw [f_X1_setOfRoots_L4]
        simp (disch := omega) only [ltL, h, if_true, e_bit, Option.bind_some, addR, ibN, clN]
        exact e
      · rw [hr j hj, tb_or, Bool.or_eq_true, tb_bI_iff]
        constructor
        · rintro ((a | ⟨_, a⟩) | ⟨i, a1, a2, a3⟩)
          · exact Or.inl a
          · exact Or.inr ⟨k, Nat.le_refl k, h, a⟩
          · exact Or.inr ⟨i, by omega, a2, a3⟩
        · rintro (a | ⟨i, a1, a2, a3⟩)
          · exact Or.inl (Or.inl a)
          · by_cases e : i = k
            · subst e; exact Or.inl (Or.inr ⟨hj, a3⟩)
            · exact Or.inr ⟨i, by omega, a2, a3⟩
    · have h4 : k = 4 := by omega
      subst h4
      refine ⟨acc, ?_, fun q => q, fun j hj => ⟨Or.inl, fun q => q.elim id (fun ⟨i, a1, a2, _⟩ => by omega)⟩⟩
      rw [f_X1_setOfRoots_L4]
      simp (disch := omega) only [ltL, if_false, Nat.lt_irrefl]
theorem e_setOfRoots (w : St) : ∃ r, f_X1_setOfRoots w = some (r, w) ∧ S24 r ∧ ∀ j, j < 24 → (tb r j = true ↔ ∃ i, i < 4 ∧ w.2 2 i = nI j) := by
  obtain ⟨r, e, h0, hr⟩ := roots_loop w BIG 0 0 (by omega) (by unfold BIG; omega)
  refine ⟨r, ?_, h0 S24_0, fun j hj => ?_⟩
  · unfold f_X1_setOfRoots
    rw [show f_X1_setOfRoots_L4 BIG 0 0 w = some (r, w) from e]
    rfl
  · rw [hr j hj, tb_0]
    constructor
    · rintro (a | ⟨i, _, a2, a3⟩)
      · cases a
      · exact ⟨i, a2, a3⟩
    · rintro ⟨i, a, b⟩
      exact Or.inr ⟨i, Nat.zero_le _, a, b⟩
/-- numbers one behind the other -/
def Lst (n : Int32) (v : Nat → Int32) (l : List Nat) : Prop := n = nI l.length ∧ l.length ≤ 24 ∧ ∀ j (h : j < l.length), v j = nI l[j] ∧ l[j] < 24
theorem asSet_loop {w : St} {l : List Nat} (hl : Lst (w.1 23) (w.2 4) l) : ∀ (n k : Nat) (acc : Int32), k ≤ l.length → l.length - k < n → ∃ r, f_X3_asSet_5_L4 n acc (nI k) w = some (r, w) ∧ (S24 acc → S24 r) ∧ ∀ j, j < 24 → (tb r j = true ↔ tb acc j = true ∨ ∃ i, ∃ h : i < l.length, k ≤ i ∧ l[i] = j) := by
  obtain ⟨hn0, hle, hv⟩ := hl
  intro n
  induction n with
  | zero => intro k acc _ h; omega
  | succ n ih =>
    intro k acc hk hn
    by_cases h : k < l.length
    · obtain ⟨r, e, h0, hr⟩ := ih (k + 1) (acc ||| bI (w.2 4 k)) (by omega) (by omega)
      refine ⟨r, ?_, fun q => h0 (S24_or q (S24_bI _)), fun j hj => ?_⟩
      · rw [f_X3_asSet_5_L4]
        have h24 : k < 24 := by omega
        have hlt : nI k < nI l.length := (nI_ltI (by omega) (by omega)).mpr h
        simp (disch := omega) only [hn0, hlt, ltL, h24, if_true, e_bit, Option.bind_some, addR, ibN, clN]
        exact e
      · rw [hr j hj, tb_or, Bool.or_eq_true, tb_bI_iff, (hv k h).1]
        constructor
        · rintro ((a | ⟨_, a⟩) | ⟨i, a1, a2, a3⟩)
          · exact Or.inl a
          · exact Or.inr ⟨k, h, Nat.le_refl k, nI_inj (by have := (hv k h).2; omega) (by omega) a⟩
          · exact Or.inr ⟨i, a1, by omega, a3⟩
        · rintro (a | ⟨i, a1, a2, a3⟩)
          · exact Or.inl (Or.inl a)
          · by_cases e : i = k
            · subst e; exact Or.inl (Or.inr ⟨hj, by rw [a3]⟩)
            · exact Or.inr ⟨i, a1, by omega, a3⟩
    · have h4 : k = l.length := by omega
      refine ⟨acc, ?_, fun q => q, fun j hj => ⟨Or.inl, fun q => q.elim id (fun ⟨i, a1, a2, _⟩ => by omega)⟩⟩
      rw [f_X3_asSet_5_L4]
      have hlt : ¬ nI k < nI l.length := fun q => by have := (nI_ltI (by omega) (by omega)).mp q; omega
      simp only [hn0, hlt, if_false]
theorem e_asSet {w : St} {l : List Nat} (hl : Lst (w.1 23) (w.2 4) l) : ∃ r, f_X3_asSet_5 w = some (r, w) ∧ S24 r ∧ ∀ j, j < 24 → (tb r j = true ↔ j ∈ l) := by
  obtain ⟨r, e, h0, hr⟩ := asSet_loop hl BIG 0 0 (by omega) (by have := hl.2.1; unfold BIG; omega)
  refine ⟨r, ?_, h0 S24_0, fun j hj => ?_⟩
  · unfold f_X3_asSet_5
    rw [show f_X3_asSet_5_L4 BIG 0 0 w = some (r, w) from e]
    rfl
  · rw [hr j hj, tb_0]
    constructor
    · rintro (a | ⟨i, a1, _, a3⟩)
      · cases a
      · rw [← a3]; exact List.getElem_mem a1
    · intro hm
      obtain ⟨i, hi, he⟩ := List.getElem_of_mem hm
      exact Or.inr ⟨i, hi, Nat.zero_le _, he⟩
def rootS (R : Nat → Int32) (j : Nat) : Prop := ∃ i, i < 4 ∧ R i = nI j
def noX : Nat → Prop := fun _ => False
theorem tb0_X : ∀ j, j < 24 → (tb 0 j = true ↔ noX j) := fun j _ => by rw [tb_0]; exact ⟨fun h => (by cases h), fun h => h.elim⟩
theorem e_reachedByRoots (w : St) : ∃ R, f_X1_reachedByRoots w = some (R, w) ∧ IsCl (w.2 1) (rootS (w.2 2)) noX R := by
  obtain ⟨r, e, h0, hr⟩ := e_setOfRoots w
  obtain ⟨R, e2, hR⟩ := e_reachedFrom r 0 h0 w
  refine ⟨R, ?_, IsCl_congr hr tb0_X (fun _ _ _ _ _ => Iff.rfl) (fun _ _ _ _ _ h => h) hR⟩
  unfold f_X1_reachedByRoots
  simp only [e, e2, Option.bind_some]
theorem e_reachedByAll {w : St} {l : List Nat} (hl : Lst (w.1 23) (w.2 4) l) : ∃ R, f_X1_reachedByAll w = some (R, w) ∧ IsCl (w.2 1) (fun j => rootS (w.2 2) j ∨ j ∈ l) noX R := by
  obtain ⟨r, e, h0, hr⟩ := e_setOfRoots w
  obtain ⟨a, e1, a0, ha⟩ := e_asSet hl
  obtain ⟨R, e2, hR⟩ := e_reachedFrom (r ||| a) 0 (S24_or h0 a0) w
  refine ⟨R, ?_, IsCl_congr (fun j hj => ?_) tb0_X (fun _ _ _ _ _ => Iff.rfl) (fun _ _ _ _ _ h => h) hR⟩
  · unfold f_X1_reachedByAll
    simp only [e, e1, e2, Option.bind_some]
  · rw [tb_or, Bool.or_eq_true, hr j hj, ha j hj]
    exact Iff.rfl
/-! the model -/
theorem e_of {k j : Nat} {m : St} (h : 7 * k + j < 235) : f_X7_of (nI k) (nI j) m = some (m.2 0 (7 * k + j), m) := by
  have h2 : nI 7 * nI k + nI j = nI (7 * k + j) := by rw [nI_mul, nI_add]
  unfold f_X7_of
  rw [show ((7 : Int32) * nI k + nI j) = nI (7 * k + j) from h2, if_pos ((ibN (by omega)).mpr h), nI_clamp (by omega)]
theorem sh_bI {j : Nat} (h : j < 24) : 1 <<< (nI j &&& 31) = bI (nI j) := (bI_nI h).symm
def mF (s : Nat → Int32) : Nat → Int32 := fun i => s (7 * (i / 3) + 1 + i % 3)
theorem mF_at (s : Nat → Int32) {k f : Nat} (hf : f < 3) : mF s (3 * k + f) = s (7 * k + (1 + f)) := by
  unfold mF
  rw [show (3 * k + f) / 3 = k by omega, show (3 * k + f) % 3 = f by omega]
  congr 1
  omega
/-- C0 holds good objects: their fields refer to such, or to none -/
def goodC (s : Nat → Int32) (C0 : Nat → Prop) : Prop := ∀ k, k < 24 → C0 k → ∀ f, f < 3 → s (7 * k + (1 + f)) = -1 ∨ ∃ j, j < 24 ∧ C0 j ∧ s (7 * k + (1 + f)) = nI j
theorem m1neg : ((-1 : Int32) < 0) = True := eq_true (by decide)
theorem sp26 {m : St} {C0 : Nat → Prop} (hg : goodC (m.2 0) C0) (x2 x5 : Int32) {k : Nat} (hk : k < 24) : ∀ (n f : Nat) (acc : Int32), f ≤ 3 → 3 - f < n → S24 acc → (∀ j, j < 24 → tb acc j = true → C0 j) →
    ∃ r, f_X7_spreads_L26 n x2 acc x5 (nI k) (nI f) m = some (r, m) ∧ S24 r ∧ (∀ j, j < 24 → tb acc j = true → tb r j = true) ∧ (∀ j, j < 24 → tb r j = true → C0 j) ∧
      (∀ j, j < 24 → tb r j = true → tb acc j = true ∨ (tb acc k = true ∧ (∃ f', f' < 3 ∧ m.2 0 (7 * k + (1 + f')) = nI j) ∧ ¬ x2 = nI j)) ∧
      (tb acc k = true → ∀ f' j, f ≤ f' → f' < 3 → j < 24 → m.2 0 (7 * k + (1 + f')) = nI j → ¬ x2 = nI j → tb r j = true) := by
  intro n
  induction n with
  | zero => intro f acc _ h; omega
  | succ n ih =>
    intro f acc hf hn h24 hC
    by_cases h : f < 3
    · rcases (Bool.eq_false_or_eq_true (tb acc k)).symm with hb | hb
      · refine ⟨acc, ?_, h24, fun _ _ q => q, hC, fun _ _ q => Or.inl q, fun q => by rw [hb] at q; cases q⟩
        rw [f_X7_spreads_L26]
        simp (disch := omega) only [ltL, h, if_true, shr_1 hk, hb, Bool.false_eq_true, if_false]
      · have hstep : ∀ X, f_X7_spreads_L26 (n + 1) x2 acc x5 (nI k) (nI f) m = X ↔ (if m.2 0 (7 * k + (1 + f)) < 0 then f_X7_spreads_L26 n x2 acc x5 (nI k) (nI (f + 1)) m else if m.2 0 (7 * k + (1 + f)) = x2 then f_X7_spreads_L26 n x2 acc x5 (nI k) (nI (f + 1)) m else f_X7_spreads_L26 n x2 (acc ||| (1 <<< (m.2 0 (7 * k + (1 + f)) &&& 31))) x5 (nI k) (nI (f + 1)) m) = X := by
          intro X
          rw [f_X7_spreads_L26]
          simp (disch := omega) only [ltL, h, if_true, shr_1 hk, hb, addL, e_of, Option.bind_some, or_0, addR]
        rcases hg k hk (hC k hk hb) f h with hv | ⟨j0, hj0, hc0, hv⟩
        · obtain ⟨r, e, r1, r2, r3, r4, r5⟩ := ih (f + 1) acc (by omega) (by omega) h24 hC
          refine ⟨r, ?_, r1, r2, r3, r4, fun q f' j a1 a2 a3 a4 a5 => ?_⟩
          · rw [hstep, hv, if_pos (by decide)]
            exact e
          · by_cases ef : f' = f
            · subst ef; rw [hv] at a4; exact absurd a4.symm (nI_ne_m1 (by omega))
            · exact r5 q f' j (by omega) a2 a3 a4 a5
        · by_cases hx : x2 = nI j0
          · obtain ⟨r, e, r1, r2, r3, r4, r5⟩ := ih (f + 1) acc (by omega) (by omega) h24 hC
            refine ⟨r, ?_, r1, r2, r3, r4, fun q f' j a1 a2 a3 a4 a5 => ?_⟩
            · rw [hstep, hv, if_neg (nI_pos (by omega)), if_pos hx.symm]
              exact e
            · by_cases ef : f' = f
              · subst ef; rw [hv] at a4; exact absurd (hx.trans a4) a5
              · exact r5 q f' j (by omega) a2 a3 a4 a5
          · have tn : ∀ j, tb (acc ||| bI (nI j0)) j = true ↔ tb acc j = true ∨ j = j0 := by
              intro j
              rw [tb_or, tb_bI hj0, Bool.or_eq_true, decide_eq_true_iff]
            obtain ⟨r, e, r1, r2, r3, r4, r5⟩ := ih (f + 1) (acc ||| bI (nI j0)) (by omega) (by omega) (S24_or h24 (S24_bI _)) (fun j hj q => ((tn j).mp q).elim (hC j hj) (fun e => e ▸ hc0))
            refine ⟨r, ?_, r1, fun j hj q => r2 j hj ((tn j).mpr (Or.inl q)), r3, fun j hj q => ?_, fun q f' j a1 a2 a3 a4 a5 => ?_⟩
            · rw [hstep, hv, if_neg (nI_pos (by omega)), if_neg (fun q => hx q.symm), sh_bI hj0]
              exact e
            · rcases r4 j hj q with a | ⟨a, b, c⟩
              · rcases (tn j).mp a with a | a
                · exact Or.inl a
                · subst a; exact Or.inr ⟨hb, ⟨f, h, hv⟩, hx⟩
              · exact Or.inr ⟨hb, b, c⟩
            · by_cases ef : f' = f
              · subst ef
                rw [hv] at a4
                have := nI_inj (by omega) (by omega) a4
                subst this
                exact r2 j0 hj0 ((tn j0).mpr (Or.inr rfl))
              · exact r5 ((tn k).mpr (Or.inl hb)) f' j (by omega) a2 a3 a4 a5
    · refine ⟨acc, ?_, h24, fun _ _ q => q, hC, fun _ _ q => Or.inl q, fun q f' j a1 a2 => by omega⟩
      rw [f_X7_spreads_L26]
      simp (disch := omega) only [ltL, h, if_false]
theorem sp16 {m : St} {C0 : Nat → Prop} (hg : goodC (m.2 0) C0) (x2 x5 : Int32) : ∀ (n k : Nat) (acc : Int32), k ≤ 24 → 24 - k < n → S24 acc → (∀ j, j < 24 → tb acc j = true → C0 j) →
    ∃ r, f_X7_spreads_L16 n x2 acc x5 (nI k) m = some (r, m) ∧ S24 r ∧ (∀ j, j < 24 → tb acc j = true → tb r j = true) ∧ (∀ j, j < 24 → tb r j = true → C0 j) ∧
      (∀ C : Nat → Prop, (∀ j, j < 24 → tb acc j = true → C j) → (∀ k j, k < 24 → j < 24 → C k → edge (mF (m.2 0)) k j → ¬ x2 = nI j → C j) → ∀ j, j < 24 → tb r j = true → C j) ∧
      (∀ k' j, k ≤ k' → k' < 24 → j < 24 → tb acc k' = true → edge (mF (m.2 0)) k' j → ¬ x2 = nI j → tb r j = true) := by
  intro n
  induction n with
  | zero => intro k acc _ h; omega
  | succ n ih =>
    intro k acc hk hn h24 hC
    by_cases h : k < 24
    · obtain ⟨r, e, r1, r2, r3, r4, r5⟩ := sp26 hg x2 x5 h BIG 0 acc (by omega) (by unfold BIG; omega) h24 hC
      obtain ⟨q, e2, q1, q2, q3, q4, q5⟩ := ih (k + 1) r (by omega) (by omega) r1 r3
      refine ⟨q, ?_, q1, fun j hj a => q2 j hj (r2 j hj a), q3, fun C c1 c2 j hj a => ?_, fun k' j a1 a2 a3 a4 a5 a6 => ?_⟩
      · rw [f_X7_spreads_L16]
        simp (disch := omega) only [ltL, h, if_true, show f_X7_spreads_L26 BIG x2 acc x5 (nI k) 0 m = some (r, m) from e, Option.bind_some, addR]
        exact e2
      · refine q4 C (fun j hj a => ?_) c2 j hj a
        rcases r4 j hj a with b | ⟨b1, ⟨f, hf, b2⟩, b3⟩
        · exact c1 j hj b
        · exact c2 k j h hj (c1 k h b1) ⟨f, hf, by rw [mF_at _ hf]; exact b2⟩ b3
      · by_cases ek : k' = k
        · subst ek
          obtain ⟨f, hf, b⟩ := a5
          rw [mF_at _ hf] at b
          exact q2 j a3 (r5 a4 f j (Nat.zero_le _) hf a3 b a6)
        · exact q5 k' j (by omega) a2 a3 (r2 k' a2 a4) a5 a6
    · have h4 : k = 24 := by omega
      subst h4
      refine ⟨acc, ?_, h24, fun _ _ q => q, hC, fun C c1 _ => c1, fun k' j a1 a2 => by omega⟩
      rw [f_X7_spreads_L16]
      simp (disch := omega) only [ltL, if_false, Nat.lt_irrefl]
theorem sp5 {m : St} {C0 : Nat → Prop} (hg : goodC (m.2 0) C0) (x2 : Int32) : ∀ (n : Nat) (acc : Int32), 24 - c24 acc + 1 < n → S24 acc → (∀ j, j < 24 → tb acc j = true → C0 j) →
    ∃ r, f_X7_spreads_L5 n x2 acc 1 m = some (r, m) ∧ S24 r ∧ (∀ j, j < 24 → tb acc j = true → tb r j = true) ∧ (∀ j, j < 24 → tb r j = true → C0 j) ∧
      (∀ C : Nat → Prop, (∀ j, j < 24 → tb acc j = true → C j) → (∀ k j, k < 24 → j < 24 → C k → edge (mF (m.2 0)) k j → ¬ x2 = nI j → C j) → ∀ j, j < 24 → tb r j = true → C j) ∧
      (∀ k' j, k' < 24 → j < 24 → tb r k' = true → edge (mF (m.2 0)) k' j → ¬ x2 = nI j → tb r j = true) := by
  intro n
  induction n with
  | zero => intro acc h; omega
  | succ n ih =>
    intro acc hn h24 hC
    obtain ⟨r, e, r1, r2, r3, r4, r5⟩ := sp16 hg x2 acc BIG 0 acc (by omega) (by unfold BIG; omega) h24 hC
    have e : f_X7_spreads_L16 BIG x2 acc acc 0 m = some (r, m) := e
    by_cases hr : r = acc
    · subst hr
      refine ⟨r, ?_, h24, fun _ _ q => q, hC, fun C c1 _ => c1, fun k' j a2 a3 a4 a5 a6 => r5 k' j (Nat.zero_le _) a2 a3 a4 a5 a6⟩
      rw [f_X7_spreads_L5]
      simp only [oz, if_false, e, Option.bind_some, if_true]
      obtain ⟨n', rfl⟩ : ∃ n', n = n' + 1 := ⟨n - 1, by omega⟩
      rw [f_X7_spreads_L5, if_pos rfl]
    · have hc := eq_sub h24 r1 r2 (fun q => hr q.symm)
      have := c24_le r
      obtain ⟨q, e2, q1, q2, q3, q4, q5⟩ := ih r (by omega) r1 r3
      refine ⟨q, ?_, q1, fun j hj a => q2 j hj (r2 j hj a), q3, fun C c1 c2 j hj a => q4 C (fun j hj a => r4 C c1 c2 j hj a) c2 j hj a, q5⟩
      rw [f_X7_spreads_L5]
      simp only [oz, if_false, e, Option.bind_some, hr]
      exact e2
theorem e_spreads {m : St} {C0 : Nat → Prop} (hg : goodC (m.2 0) C0) (x1 x2 : Int32) (h24 : S24 x1) (hC : ∀ j, j < 24 → tb x1 j = true → C0 j) (hx : ∀ j, j < 24 → tb x1 j = true → ¬ x2 = nI j) : ∃ R, f_X7_spreads x1 x2 m = some (R, m) ∧ (∀ j, j < 24 → tb R j = true → C0 j) ∧ IsCl (mF (m.2 0)) (fun j => tb x1 j = true) (fun j => x2 = nI j) R := by
  obtain ⟨r, e, r1, r2, r3, r4, r5⟩ := sp5 hg x2 BIG x1 (by have := c24_le x1; unfold BIG; omega) h24 hC
  refine ⟨r, ?_, r3, r1, fun j hj a _ => r2 j hj a, r5, fun C c1 c2 => r4 C (fun j hj a => c1 j hj a (hx j hj a)) c2⟩
  unfold f_X7_spreads
  rw [e]
  rfl
