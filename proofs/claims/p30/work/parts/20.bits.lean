/-! PURE: bits and small numbers -/
def tb (x : Int32) (k : Nat) : Bool := x.toBitVec.getLsbD k
theorem tb_and (x y : Int32) (k : Nat) : tb (x &&& y) k = (tb x k && tb y k) := by simp [tb]
theorem tb_or (x y : Int32) (k : Nat) : tb (x ||| y) k = (tb x k || tb y k) := by simp [tb]
theorem tb_xor (x y : Int32) (k : Nat) : tb (x ^^^ y) k = (tb x k != tb y k) := by simp [tb]
theorem tb_big (x : Int32) {k : Nat} (hk : 32 ≤ k) : tb x k = false := BitVec.getLsbD_of_ge _ _ hk
theorem tb_m1 {k : Nat} (hk : k < 32) : tb (-1) k = true := by
  have h : ∀ k, k < 32 → tb (-1) k = true := by decide +kernel
  exact h k hk
theorem tb_not (x : Int32) {k : Nat} (hk : k < 32) : tb (x ^^^ (-1)) k = !tb x k := by
  rw [tb_xor, tb_m1 hk]
  cases tb x k <;> rfl
theorem tb_0 (k : Nat) : tb 0 k = false := by
  show (0 : Int32).toBitVec.getLsbD k = false
  simp
theorem tb_ext {x y : Int32} (h : ∀ k, k < 32 → tb x k = tb y k) : x = y := by
  apply Int32.toBitVec_inj.mp
  apply BitVec.eq_of_getLsbD_eq
  intro i hi
  exact h i hi
/-- a set of numbers below 24 -/
def S24 (x : Int32) : Prop := ∀ k, 24 ≤ k → tb x k = false
theorem S24_ext {x y : Int32} (hx : S24 x) (hy : S24 y) (h : ∀ k, k < 24 → tb x k = tb y k) : x = y := by
  apply tb_ext
  intro k _
  rcases Nat.lt_or_ge k 24 with h1 | h1
  · exact h k h1
  · rw [hx k h1, hy k h1]
theorem S24_0 : S24 0 := fun k _ => tb_0 k
theorem S24_and {x y : Int32} (hx : S24 x) : S24 (x &&& y) := fun k hk => by rw [tb_and, hx k hk]; rfl
theorem S24_and2 {x y : Int32} (hy : S24 y) : S24 (x &&& y) := fun k hk => by rw [tb_and, hy k hk, Bool.and_false]
theorem S24_or {x y : Int32} (hx : S24 x) (hy : S24 y) : S24 (x ||| y) := fun k hk => by rw [tb_or, hx k hk, hy k hk]; rfl
def bI (x : Int32) : Int32 := if x < 0 then 0 else if x < 24 then 1 <<< (x &&& 31) else 0
theorem e_bit {Wt : Type} (x : Int32) (w : Wt) : f_X6_bit x w = some (bI x, w) := by
  unfold f_X6_bit bI
  split
  · rfl
  · split <;> rfl
theorem tb_sh : ∀ k, k < 24 → ∀ j, j < 32 → tb (1 <<< (nI k &&& 31)) j = decide (j = k) := by decide +kernel
theorem ltL {k n : Nat} (hk : k < 2147483648) (hn : (OfNat.ofNat n : Nat) < 2147483648) : nI k < (no_index (OfNat.ofNat n) : Int32) ↔ k < (OfNat.ofNat n : Nat) := nI_ltI (a := k) (b := n) hk hn
theorem Llt {k n : Nat} (hk : k < 2147483648) (hn : (OfNat.ofNat n : Nat) < 2147483648) : (no_index (OfNat.ofNat n) : Int32) < nI k ↔ (OfNat.ofNat n : Nat) < k := nI_ltI (a := n) (b := k) hn hk
theorem eqL {k n : Nat} (hk : k < 2147483648) (hn : (OfNat.ofNat n : Nat) < 2147483648) : nI k = (no_index (OfNat.ofNat n) : Int32) ↔ k = (OfNat.ofNat n : Nat) := nI_eq (a := k) (b := n) hk hn
theorem lt0 {k : Nat} (hk : k < 2 ^ 31) : nI k < 0 ↔ False := ⟨nI_pos hk, False.elim⟩
theorem bI_nI {k : Nat} (hk : k < 24) : bI (nI k) = 1 <<< (nI k &&& 31) := by
  unfold bI
  rw [if_neg (nI_pos (by omega)), if_pos ((ltL (by omega) (by omega)).mpr hk)]
theorem tb_bI {k : Nat} (hk : k < 24) (j : Nat) : tb (bI (nI k)) j = decide (j = k) := by
  rw [bI_nI hk]
  rcases Nat.lt_or_ge j 32 with h | h
  · exact tb_sh k hk j h
  · rw [tb_big _ h]
    exact (decide_eq_false (by omega)).symm
theorem bI_neg {x : Int32} (h : x < 0) : bI x = 0 := if_pos h
theorem bI_m1 : bI (-1) = 0 := by decide +kernel
theorem bI_big {x : Int32} (h : ¬ x < 24) : bI x = 0 := by
  unfold bI
  rw [if_neg h]
  split <;> rfl
/-- the cases of an index -/
theorem rng (x : Int32) (n : Nat) (hn : n < 2 ^ 31) : (∃ k, k < n ∧ x = nI k) ∨ x < 0 ∨ (¬ x < 0 ∧ ¬ x < nI n) := by
  by_cases h : x < 0
  · exact Or.inr (Or.inl h)
  · obtain ⟨j, hj, rfl⟩ := nI_of h
    rcases Nat.lt_or_ge j n with h1 | h1
    · exact Or.inl ⟨j, h1, rfl⟩
    · exact Or.inr (Or.inr ⟨h, nI_nlt h1 hj⟩)
theorem S24_bI (x : Int32) : S24 (bI x) := by
  intro j hj
  rcases rng x 24 (by omega) with ⟨k, hk, rfl⟩ | h | ⟨h1, h2⟩
  · rw [tb_bI hk]
    exact decide_eq_false (by omega)
  · rw [bI_neg h]; exact tb_0 j
  · rw [bI_big h2]; exact tb_0 j
theorem and_zero {x y : Int32} : x &&& y = 0 ↔ ∀ k, k < 32 → (tb x k && tb y k) = false := by
  constructor
  · intro h k _
    rw [← tb_and, h, tb_0]
  · intro h
    apply tb_ext
    intro k hk
    rw [tb_and, tb_0]
    exact h k hk
theorem and_bI {x : Int32} {k : Nat} (hk : k < 24) : x &&& bI (nI k) = 0 ↔ tb x k = false := by
  rw [and_zero]
  constructor
  · intro h
    have := h k (by omega)
    rw [tb_bI hk, decide_eq_true rfl, Bool.and_true] at this
    exact this
  · intro h j _
    rw [tb_bI hk]
    by_cases e : j = k
    · subst e; rw [h]; rfl
    · rw [decide_eq_false e, Bool.and_false]
theorem sh_amt : ∀ k, k < 24 → ((nI k &&& 31).toBitVec.smod 32).toNat = k := by decide +kernel
theorem tb_shr0 {x : Int32} {k : Nat} (hk : k < 24) : tb (x >>> (nI k &&& 31)) 0 = tb x k := by
  unfold tb
  rw [Int32.toBitVec_shiftRight]
  show (x.toBitVec.sshiftRight ((nI k &&& 31).toBitVec.smod 32).toNat).getLsbD 0 = _
  rw [sh_amt k hk, BitVec.getLsbD_sshiftRight]
  simp
  omega
theorem tb_one : ∀ j, j < 32 → tb 1 j = decide (j = 0) := by decide +kernel
theorem shr_v {x : Int32} {k : Nat} (hk : k < 24) : (x >>> (nI k &&& 31)) &&& 1 = if tb x k then 1 else 0 := by
  apply tb_ext
  intro j hj
  rw [tb_and, tb_one j hj]
  by_cases e : j = 0
  · subst e
    rw [tb_shr0 hk]
    cases tb x k <;> decide
  · rw [decide_eq_false e, Bool.and_false]
    cases tb x k
    · exact (tb_0 j).symm
    · exact (tb_one j hj ▸ (decide_eq_false e)).symm
theorem shr_1 {x : Int32} {k : Nat} (hk : k < 24) : (x >>> (nI k &&& 31)) &&& 1 = 1 ↔ tb x k = true := by
  rw [shr_v hk]
  cases tb x k <;> decide
theorem shr_0 {x : Int32} {k : Nat} (hk : k < 24) : (x >>> (nI k &&& 31)) &&& 1 = 0 ↔ tb x k = false := by
  rw [shr_v hk]
  cases tb x k <;> decide
theorem nI_inj {a b : Nat} (ha : a < 2 ^ 31) (hb : b < 2 ^ 31) (h : nI a = nI b) : a = b := (nI_eq ha hb).mp h
theorem nI_ne_m1 {k : Nat} (hk : k < 2 ^ 31) : nI k ≠ -1 := by
  intro h
  have h2 := nI_pos hk
  rw [h] at h2
  exact h2 (by decide)
/-- how many below n -/
def cnt (f : Nat → Bool) : Nat → Nat
  | 0 => 0
  | n + 1 => cnt f n + (if f n then 1 else 0)
theorem cnt_le (f : Nat → Bool) (n : Nat) : cnt f n ≤ n := by
  induction n with
  | zero => exact Nat.le_refl 0
  | succ n ih => unfold cnt; split <;> omega
theorem cnt_congr {f g : Nat → Bool} {n : Nat} (h : ∀ k, k < n → f k = g k) : cnt f n = cnt g n := by
  induction n with
  | zero => rfl
  | succ n ih => unfold cnt; rw [ih (fun k hk => h k (by omega)), h n (by omega)]
theorem cnt_mono {f g : Nat → Bool} {n : Nat} (h : ∀ k, k < n → f k = true → g k = true) : cnt f n ≤ cnt g n := by
  induction n with
  | zero => exact Nat.le_refl 0
  | succ n ih =>
    unfold cnt
    have h1 := ih (fun k hk => h k (by omega))
    have h2 := h n (by omega)
    cases hf : f n
    · simp; split <;> omega
    · rw [h2 hf]; omega
theorem cnt_lt {f g : Nat → Bool} {n k : Nat} (h : ∀ k, k < n → f k = true → g k = true) (hk : k < n) (h1 : f k = false) (h2 : g k = true) : cnt f n < cnt g n := by
  induction n with
  | zero => omega
  | succ n ih =>
    unfold cnt
    by_cases e : k = n
    · subst e
      have := cnt_mono (f := f) (g := g) (n := k) (fun j hj => h j (by omega))
      rw [h1, h2]
      simp
      omega
    · have h3 := ih (fun j hj => h j (by omega)) (by omega)
      have h4 := h n (by omega)
      cases hf : f n
      · simp; split <;> omega
      · rw [h4 hf]; simp; omega
theorem cnt_pos {f : Nat → Bool} {n k : Nat} (hk : k < n) (h : f k = true) : 0 < cnt f n := by
  have := cnt_lt (f := fun _ => false) (g := f) (n := n) (k := k) (fun _ _ h => by cases h) hk rfl h
  omega
theorem nI_div3 {k : Nat} (h : k < 72) : nI k / 3 = nI (k / 3) := by
  have h1 : ∀ k, k < 72 → nI k / 3 = nI (k / 3) := by decide +kernel
  exact h1 k h
