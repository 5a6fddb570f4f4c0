/-! PURE: indices; the class's small functions in closed form -/
theorem nI_mul (a b : Nat) : nI a * nI b = nI (a * b) := (Int32.ofNat_mul a b).symm
theorem oz : ((1 : Int32) = 0) = False := eq_false (by decide)
theorem addL (a b : Nat) : (no_index (OfNat.ofNat a) : Int32) + nI b = nI ((OfNat.ofNat a : Nat) + b) := nI_add a b
theorem addR (a b : Nat) : nI a + (no_index (OfNat.ofNat b) : Int32) = nI (a + (OfNat.ofNat b : Nat)) := nI_add a b
theorem mulL (a b : Nat) : (no_index (OfNat.ofNat a) : Int32) * nI b = nI ((OfNat.ofNat a : Nat) * b) := nI_mul a b
theorem mulR (a b : Nat) : nI a * (no_index (OfNat.ofNat b) : Int32) = nI (a * (OfNat.ofNat b : Nat)) := nI_mul a b
theorem clL {k : Nat} (h : (OfNat.ofNat k : Nat) < 2147483648) : (no_index (OfNat.ofNat k) : Int32).toNatClampNeg = (OfNat.ofNat k : Nat) := nI_clamp (n := k) h
theorem clN {k : Nat} (h : k < 2147483648) : (nI k).toNatClampNeg = k := nI_clamp h
theorem ibN {k n : Nat} (h : k < 2147483648) : ib (nI k) n ↔ k < n := by
  unfold ib
  rw [nI_clamp h]
  exact ⟨fun q => q.2, fun q => ⟨nI_pos h, q⟩⟩
theorem ibL {k n : Nat} (h : (OfNat.ofNat k : Nat) < 2147483648) : ib (no_index (OfNat.ofNat k) : Int32) n ↔ (OfNat.ofNat k : Nat) < n := ibN (k := k) h
theorem tb_bI_iff {v : Int32} {j : Nat} : tb (bI v) j = true ↔ j < 24 ∧ v = nI j := by
  rcases rng v 24 (by omega) with ⟨k, hk, rfl⟩ | h | ⟨h1, h2⟩
  · rw [tb_bI hk, decide_eq_true_iff]
    constructor
    · rintro rfl; exact ⟨hk, rfl⟩
    · rintro ⟨h, e⟩; exact (nI_inj (by omega) (by omega) e).symm
  · rw [bI_neg h, tb_0]
    constructor
    · intro q; cases q
    · rintro ⟨q, rfl⟩; exact absurd h (nI_pos (by omega))
  · rw [bI_big h2, tb_0]
    constructor
    · intro q; cases q
    · rintro ⟨q, rfl⟩; exact absurd ((nI_ltI (a := j) (b := 24) (by omega) (by omega)).mpr q) h2
def isI (x y : Int32) : Int32 := if x < 0 then 0 else if x < y then 1 else 0
theorem e_isIn {Wt : Type} (x y : Int32) (w : Wt) : f_X6_isIn x y w = some (isI x y, w) := by
  unfold f_X6_isIn isI
  split
  · rfl
  · split <;> rfl
theorem isI_in {k n : Nat} (hn : (OfNat.ofNat n : Nat) < 2147483648) (h : k < (OfNat.ofNat n : Nat)) : isI (nI k) (no_index (OfNat.ofNat n)) = 1 := by
  unfold isI
  rw [if_neg (nI_pos (by omega)), if_pos ((ltL (by omega) hn).mpr h)]
theorem isI_inN {k n : Nat} (hn : n < 2147483648) (h : k < n) : isI (nI k) (nI n) = 1 := by
  unfold isI
  rw [if_neg (nI_pos (by omega)), if_pos ((nI_ltI (by omega) hn).mpr h)]
theorem isI_neg {x y : Int32} (h : x < 0) : isI x y = 0 := if_pos h
theorem isI_big {x y : Int32} (h : ¬ x < y) : isI x y = 0 := by
  unfold isI
  rw [if_neg h]
  split <;> rfl
def hasI (p x : Int32) : Int32 := if p &&& bI x = 0 then 0 else 1
theorem e_has (x : Int32) (w : St) : f_X1_has x w = some (hasI (w.1 13) x, w) := by
  unfold f_X1_has hasI
  rw [e_bit]
  show (if w.1 13 &&& bI x = 0 then _ else _) = _
  split <;> rfl
theorem hasI_nI {p : Int32} {k : Nat} (hk : k < 24) : hasI p (nI k) = if tb p k then 1 else 0 := by
  unfold hasI
  cases h : tb p k
  · rw [if_pos ((and_bI hk).mpr h)]; rfl
  · rw [if_neg (fun q => by rw [(and_bI hk).mp q] at h; cases h)]; rfl
theorem and_0 (p : Int32) : p &&& 0 = 0 := by
  apply tb_ext; intro k _; rw [tb_and, tb_0, Bool.and_false]
theorem or_0 (p : Int32) : p ||| 0 = p := by
  apply tb_ext; intro k _; rw [tb_or, tb_0, Bool.or_false]
theorem hasI_neg {p x : Int32} (h : x < 0) : hasI p x = 0 := by
  unfold hasI; rw [bI_neg h, and_0, if_pos rfl]
theorem hasI_big {p x : Int32} (h : ¬ x < 24) : hasI p x = 0 := by
  unfold hasI; rw [bI_big h, and_0, if_pos rfl]
/-- an object's number, or not one -/
theorem hasI_iff {p x : Int32} : (hasI p x = 1 ∧ ∃ k, k < 24 ∧ x = nI k ∧ tb p k = true) ∨ (hasI p x = 0 ∧ ∀ k, k < 24 → x = nI k → tb p k = false) := by
  rcases rng x 24 (by omega) with ⟨k, hk, rfl⟩ | h | ⟨h1, h2⟩
  · rw [hasI_nI hk]
    cases h : tb p k
    · exact Or.inr ⟨rfl, fun j hj e => by rw [← nI_inj (by omega) (by omega) e]; exact h⟩
    · exact Or.inl ⟨rfl, k, hk, rfl, h⟩
  · exact Or.inr ⟨hasI_neg h, fun j hj e => by subst e; exact absurd h (nI_pos (by omega))⟩
  · exact Or.inr ⟨hasI_big h2, fun j hj e => by subst e; exact absurd ((nI_ltI (a := j) (b := 24) (by omega) (by omega)).mpr hj) h2⟩
theorem e_hasOrNone (x : Int32) (w : St) : f_X1_hasOrNone x w = some (if x = -1 then 1 else hasI (w.1 13) x, w) := by
  unfold f_X1_hasOrNone
  by_cases h : x = -1
  · rw [if_pos h, if_pos h]
  · rw [if_neg h, if_neg h, e_has]
    show (if hasI (w.1 13) x = 0 then _ else _) = _
    unfold hasI
    split
    · rw [if_pos rfl]
    · rw [if_neg (by decide)]
theorem e_fieldOf {k f : Nat} (hk : k < 24) (hf : f < 3) (w : St) : f_X1_fieldOf (nI k) (nI f) w = some (w.2 1 (3 * k + f), w) := by
  have h1 : 3 * k + f < 72 := by omega
  have h2 : k * 3 + f = 3 * k + f := by omega
  simp (disch := omega) only [f_X1_fieldOf, e_isIn, isI_in, Option.bind_some, oz, mulR, nI_add, ibN, clN, h1, h2, if_true, if_false]
theorem e_setField {k f : Nat} (hk : k < 24) (hf : f < 3) (v : Int32) (w : St) : f_X1_setField (nI k) (nI f) v w = some (0, sG w 1 (upd (w.2 1) (3 * k + f) v)) := by
  have h1 : 3 * k + f < 72 := by omega
  have h2 : k * 3 + f = 3 * k + f := by omega
  simp (disch := omega) only [f_X1_setField, Nat.not_lt_zero, ltL, mulR, nI_add, ibN, clN, h1, h2, hk, hf, if_true, if_false, sA]
theorem e_rootAt {j : Nat} (hj : j < 4) (w : St) : f_X1_rootAt (nI j) w = some (w.2 2 j, w) := by
  simp (disch := omega) only [f_X1_rootAt, e_isIn, isI_in, Option.bind_some, oz, ibN, clN, hj, if_true, if_false]
theorem e_holderAt {j : Nat} (hj : j < 4) (w : St) : f_X1_holderAt (nI j) w = some (w.2 3 j, w) := by
  simp (disch := omega) only [f_X1_holderAt, e_isIn, isI_in, Option.bind_some, oz, ibN, clN, hj, if_true, if_false]
theorem e_append5 {n : Nat} {w : St} (hn : n < 24) (h : w.1 23 = nI n) (x : Int32) : f_X3_append_5 x w = some (0, sR (sG w 4 (upd (w.2 4) n x)) 23 (nI (n + 1))) := by
  simp (disch := omega) only [f_X3_append_5, h, ltL, ibN, clN, hn, if_true, sA, addR]
theorem e_append6 {n : Nat} {w : St} (hn : n < 24) (h : w.1 24 = nI n) (x : Int32) : f_X3_append_6 x w = some (0, sR (sG w 5 (upd (w.2 5) n x)) 24 (nI (n + 1))) := by
  simp (disch := omega) only [f_X3_append_6, h, ltL, ibN, clN, hn, if_true, sA, addR]
theorem e_at5 {n j : Nat} {w : St} (hn : n ≤ 24) (h : w.1 23 = nI n) (hj : j < n) : f_X3_at_5 (nI j) w = some (w.2 4 j, w) := by
  have h1 : j < 24 := by omega
  simp (disch := omega) only [f_X3_at_5, e_isIn, isI_inN, h, Option.bind_some, oz, ltL, ibN, clN, h1, if_true, if_false]
theorem e_at6 {n : Nat} {w : St} (hn : n ≤ 24) (h : w.1 24 = nI n) (x : Int32) : f_X3_at_6 x w = some (if isI x (nI n) = 0 then -1 else w.2 5 x.toNatClampNeg, w) := by
  rcases rng x n (by omega) with ⟨k, hk, rfl⟩ | h1 | ⟨h1, h2⟩
  · have h3 : k < 24 := by omega
    simp (disch := omega) only [f_X3_at_6, e_isIn, isI_inN, h, Option.bind_some, oz, ltL, ibN, clN, h3, if_true, if_false]
  · simp only [f_X3_at_6, e_isIn, isI_neg h1, Option.bind_some, if_true]
  · simp only [f_X3_at_6, e_isIn, h, isI_big h2, Option.bind_some, if_true]
/-- the first one of a line goes -/
def tk (v : Nat → Int32) (n : Nat) : Nat → Int32 := va_cpy v v (1 : Int32).toNatClampNeg (0 : Int32).toNatClampNeg n
theorem tk_at {v : Nat → Int32} {n j : Nat} (h : j < n) : tk v n j = v (j + 1) := by
  unfold tk va_cpy
  rw [show (1 : Int32).toNatClampNeg = 1 by decide, show (0 : Int32).toNatClampNeg = 0 by decide, if_pos ⟨Nat.zero_le _, by omega⟩]
  congr 1
  omega
theorem subL1 {n : Nat} : nI (n + 1) - 1 = nI n := nI_pred n
theorem cp_tk {n : Nat} (hn : n < 24) : cpb 1 0 (nI n) 24 24 := by
  refine ⟨by decide, by decide, nI_pos (by omega), ?_, ?_⟩
  · rw [nI_clamp (by omega), show (1 : Int32).toNatClampNeg = 1 by decide]; omega
  · rw [nI_clamp (by omega), show (0 : Int32).toNatClampNeg = 0 by decide]; omega
theorem c0L : (0 : Int32).toNatClampNeg = 0 := by decide
theorem ib0 : ib 0 24 := by decide
theorem e_take5 {n : Nat} {w : St} (hn : n < 24) (h : w.1 23 = nI (n + 1)) : f_X3_takeFirst_5 w = some (w.2 4 0, sG (sR w 23 (nI n)) 4 (tk (w.2 4) n)) := by
  have h1 : (0 : Int32) < nI (n + 1) := (Llt (by omega) (by omega)).mpr (by omega)
  have h2 : ¬ (24 : Int32) < nI (n + 1) := fun q => by have := (Llt (by omega) (by omega)).mp q; omega
  unfold f_X3_takeFirst_5
  rw [h, if_pos h1, if_neg h2, if_pos ib0, subL1, if_pos (cp_tk hn), nI_clamp (by omega), c0L]
  rfl
theorem e_take5_0 {w : St} (h : w.1 23 = nI 0) : f_X3_takeFirst_5 w = some (-1, w) := by
  unfold f_X3_takeFirst_5
  rw [h, if_neg (by decide)]
theorem e_take6 {n : Nat} {w : St} (hn : n < 24) (h : w.1 24 = nI (n + 1)) : f_X3_takeFirst_6 w = some (w.2 5 0, sG (sR w 24 (nI n)) 5 (tk (w.2 5) n)) := by
  have h1 : (0 : Int32) < nI (n + 1) := (Llt (by omega) (by omega)).mpr (by omega)
  have h2 : ¬ (24 : Int32) < nI (n + 1) := fun q => by have := (Llt (by omega) (by omega)).mp q; omega
  unfold f_X3_takeFirst_6
  rw [h, if_pos h1, if_neg h2, if_pos ib0, subL1, if_pos (cp_tk hn), nI_clamp (by omega), c0L]
  rfl
/-- the lowest of a set, from a number on -/
def LowS (f : Nat → Bool) (k0 : Nat) (r : Int32) : Prop := (∃ k, k0 ≤ k ∧ k < 24 ∧ f k = true ∧ (∀ j, k0 ≤ j → j < k → f j = false) ∧ r = nI k) ∨ (r = -1 ∧ ∀ j, k0 ≤ j → j < 24 → f j = false)
theorem low_loop {Wt : Type} (x : Int32) (w : Wt) : ∀ (n k : Nat), k ≤ 24 → 24 - k < n → ∃ r, f_X6_lowestOf_L6 n x (nI k) w = some (r, w) ∧ LowS (tb x) k r := by
  intro n
  induction n with
  | zero => intro k _ h; omega
  | succ n ih =>
    intro k hk hn
    rw [f_X6_lowestOf_L6]
    by_cases h : k < 24
    · rw [if_pos ((ltL (by omega) (by omega)).mpr h), e_bit]
      show ∃ r, (if x &&& bI (nI k) = 0 then f_X6_lowestOf_L6 n x (nI k + 1) w else some (nI k, w)) = some (r, w) ∧ _
      by_cases hb : tb x k = true
      · refine ⟨nI k, if_neg (fun q => by rw [(and_bI h).mp q] at hb; cases hb), Or.inl ⟨k, Nat.le_refl k, h, hb, fun j h1 h2 => by omega, rfl⟩⟩
      · have hb : tb x k = false := by simpa using hb
        obtain ⟨r, e, hr⟩ := ih (k + 1) (by omega) (by omega)
        rw [if_pos ((and_bI h).mpr hb), addR]
        refine ⟨r, e, ?_⟩
        rcases hr with ⟨k2, h1, h2, h3, h4, h5⟩ | ⟨h1, h2⟩
        · refine Or.inl ⟨k2, by omega, h2, h3, fun j q1 q2 => ?_, h5⟩
          by_cases ej : j = k
          · subst ej; exact hb
          · exact h4 j (by omega) q2
        · refine Or.inr ⟨h1, fun j q1 q2 => ?_⟩
          by_cases ej : j = k
          · subst ej; exact hb
          · exact h2 j (by omega) q2
    · rw [if_neg (fun q => h ((ltL (by omega) (by omega)).mp q))]
      exact ⟨-1, rfl, Or.inr ⟨rfl, fun j h1 h2 => by omega⟩⟩
theorem e_low {Wt : Type} (x : Int32) {k : Nat} (hk : k ≤ 24) (w : Wt) : ∃ r, f_X6_lowestOf x (nI k) w = some (r, w) ∧ LowS (tb x) k r := by
  unfold f_X6_lowestOf
  rw [if_neg (nI_pos (by omega))]
  exact low_loop x w BIG k hk (by unfold BIG; omega)
theorem e_low0 {Wt : Type} (x : Int32) (w : Wt) : ∃ r, f_X6_lowestOf x 0 w = some (r, w) ∧ LowS (tb x) 0 r := e_low x (k := 0) (by omega) w
