/-! PURE: how many bits -/
theorem land_split (k a m q r : Nat) (ha : a < 2 ^ k) (hm : m < 2 ^ k) : (a + 2 ^ k * q) &&& (m + 2 ^ k * r) = (a &&& m) + 2 ^ k * (q &&& r) := by
  have h1 := Nat.and_mod_two_pow (a := a + 2 ^ k * q) (b := m + 2 ^ k * r) (n := k)
  have h2 := Nat.and_div_two_pow (a := a + 2 ^ k * q) (b := m + 2 ^ k * r) (n := k)
  have hp : 0 < 2 ^ k := Nat.two_pow_pos k
  rw [Nat.add_mul_mod_self_left, Nat.add_mul_mod_self_left, Nat.mod_eq_of_lt ha, Nat.mod_eq_of_lt hm] at h1
  rw [Nat.add_mul_div_left _ _ hp, Nat.add_mul_div_left _ _ hp, Nat.div_eq_of_lt ha, Nat.div_eq_of_lt hm, Nat.zero_add, Nat.zero_add] at h2
  have := Nat.mod_add_div ((a + 2 ^ k * q) &&& (m + 2 ^ k * r)) (2 ^ k)
  rw [h1, h2] at this
  exact this.symm
def pkN (B : Nat) (f : Nat → Nat) : Nat → Nat
  | 0 => 0
  | n + 1 => f 0 + B * pkN B (fun i => f (i + 1)) n
def mkN (m B : Nat) : Nat → Nat
  | 0 => 0
  | n + 1 => m + B * mkN m B n
theorem and1N : ∀ a, a < 4 → a &&& 1 = a % 2 := by decide
theorem pcA : ∀ (n : Nat) (f : Nat → Nat), (∀ i, f i ≤ 1) → pkN 2 f (2 * n) - ((pkN 2 f (2 * n) / 2) &&& mkN 1 4 n) = pkN 4 (fun i => f (2 * i) + f (2 * i + 1)) n ∧ (pkN 2 f (2 * n) / 2) &&& mkN 1 4 n ≤ pkN 2 f (2 * n) := by
  intro n
  induction n with
  | zero => intro f _; simp [pkN, mkN]
  | succ n ih =>
    intro f hf
    obtain ⟨h1, h2⟩ := ih (fun i => f (i + 1 + 1)) (fun i => hf _)
    have e : pkN 2 f (2 * (n + 1)) = f 0 + 2 * (f 1 + 2 * pkN 2 (fun i => f (i + 1 + 1)) (2 * n)) := rfl
    have em : mkN 1 4 (n + 1) = 1 + 2 ^ 2 * mkN 1 4 n := rfl
    have e4 : pkN 4 (fun i => f (2 * i) + f (2 * i + 1)) (n + 1) = (f 0 + f 1) + 4 * pkN 4 (fun i => f (2 * i + 1 + 1) + f (2 * i + 1 + 1 + 1)) n := rfl
    have e5 : pkN 4 (fun i => f (2 * i + 1 + 1) + f (2 * i + 1 + 1 + 1)) n = pkN 4 (fun i => (fun i => f (i + 1 + 1)) (2 * i) + (fun i => f (i + 1 + 1)) (2 * i + 1)) n := rfl
    rw [e, em, e4, e5, ← h1]
    generalize pkN 2 (fun i => f (i + 1 + 1)) (2 * n) = X at h2 ⊢
    have b0 := hf 0
    have b1 := hf 1
    have s : (f 0 + 2 * (f 1 + 2 * X)) / 2 = (f 1 + 2 * (X % 2)) + 2 ^ 2 * (X / 2) := by omega
    rw [s, land_split 2 _ _ _ _ (by omega) (by omega), and1N _ (by omega)]
    generalize (X / 2) &&& mkN 1 4 n = t at h2 ⊢
    omega
theorem and3N : ∀ a, a < 16 → a &&& 3 = a % 4 := by decide
theorem pcB : ∀ (n : Nat) (f : Nat → Nat), (∀ i, f i ≤ 2) → (pkN 4 f (2 * n) &&& mkN 3 16 n) + ((pkN 4 f (2 * n) / 4) &&& mkN 3 16 n) = pkN 16 (fun i => f (2 * i) + f (2 * i + 1)) n := by
  intro n
  induction n with
  | zero => intro f _; simp [pkN, mkN]
  | succ n ih =>
    intro f hf
    have h1 := ih (fun i => f (i + 1 + 1)) (fun i => hf _)
    have e : pkN 4 f (2 * (n + 1)) = f 0 + 4 * (f 1 + 4 * pkN 4 (fun i => f (i + 1 + 1)) (2 * n)) := rfl
    have em : mkN 3 16 (n + 1) = 3 + 2 ^ 4 * mkN 3 16 n := rfl
    have e4 : pkN 16 (fun i => f (2 * i) + f (2 * i + 1)) (n + 1) = (f 0 + f 1) + 16 * pkN 16 (fun i => (fun i => f (i + 1 + 1)) (2 * i) + (fun i => f (i + 1 + 1)) (2 * i + 1)) n := rfl
    rw [e, em, e4, ← h1]
    generalize pkN 4 (fun i => f (i + 1 + 1)) (2 * n) = X
    have b0 := hf 0
    have b1 := hf 1
    have s : (f 0 + 4 * (f 1 + 4 * X)) / 4 = (f 1 + 4 * (X % 4)) + 2 ^ 4 * (X / 4) := by omega
    have s2 : f 0 + 4 * (f 1 + 4 * X) = (f 0 + 4 * f 1) + 2 ^ 4 * X := by omega
    rw [s, s2, land_split 4 _ _ _ _ (by omega) (by omega), land_split 4 _ _ _ _ (by omega) (by omega), and3N _ (by omega), and3N _ (by omega)]
    generalize X &&& mkN 3 16 n = t
    generalize (X / 4) &&& mkN 3 16 n = t2
    omega
theorem and15N (a : Nat) (_ : a < 256) : a &&& 15 = a % 16 := Nat.and_two_pow_sub_one_eq_mod a 4
theorem pk_mod (f : Nat → Nat) (n : Nat) (h : ∀ i, f i ≤ 4) : pkN 16 f n % 16 ≤ 4 := by
  cases n with
  | zero => exact Nat.zero_le _
  | succ n =>
    have e : pkN 16 f (n + 1) = f 0 + 16 * pkN 16 (fun i => f (i + 1)) n := rfl
    rw [e]
    have := h 0
    omega
theorem pcC : ∀ (n : Nat) (f : Nat → Nat), (∀ i, f i ≤ 4) → (pkN 16 f (2 * n) + pkN 16 f (2 * n) / 16) &&& mkN 15 256 n = pkN 256 (fun i => f (2 * i) + f (2 * i + 1)) n := by
  intro n
  induction n with
  | zero => intro f _; simp [pkN, mkN]
  | succ n ih =>
    intro f hf
    have h1 := ih (fun i => f (i + 1 + 1)) (fun i => hf _)
    have hm := pk_mod (fun i => f (i + 1 + 1)) (2 * n) (fun i => hf _)
    have e : pkN 16 f (2 * (n + 1)) = f 0 + 16 * (f 1 + 16 * pkN 16 (fun i => f (i + 1 + 1)) (2 * n)) := rfl
    have em : mkN 15 256 (n + 1) = 15 + 2 ^ 8 * mkN 15 256 n := rfl
    have e4 : pkN 256 (fun i => f (2 * i) + f (2 * i + 1)) (n + 1) = (f 0 + f 1) + 256 * pkN 256 (fun i => (fun i => f (i + 1 + 1)) (2 * i) + (fun i => f (i + 1 + 1)) (2 * i + 1)) n := rfl
    rw [e, em, e4, ← h1]
    generalize pkN 16 (fun i => f (i + 1 + 1)) (2 * n) = X at hm ⊢
    have b0 := hf 0
    have b1 := hf 1
    have s : f 0 + 16 * (f 1 + 16 * X) + (f 0 + 16 * (f 1 + 16 * X)) / 16 = (f 0 + f 1 + 16 * (f 1 + X % 16)) + 2 ^ 8 * (X + X / 16) := by omega
    rw [s, land_split 8 _ _ _ _ (by omega) (by omega), and15N _ (by omega)]
    generalize (X + X / 16) &&& mkN 15 256 n = t
    omega
theorem pkNle {B c : Nat} : ∀ (n : Nat) (f : Nat → Nat), (∀ i, f i ≤ c) → pkN B f n ≤ c * mkN 1 B n := by
  intro n
  induction n with
  | zero => intro f _; exact Nat.le_refl _
  | succ n ih =>
    intro f hf
    have h1 := ih (fun i => f (i + 1)) (fun i => hf _)
    have e : pkN B f (n + 1) = f 0 + B * pkN B (fun i => f (i + 1)) n := rfl
    have em : c * mkN 1 B (n + 1) = c * 1 + B * (c * mkN 1 B n) := by
      show c * (1 + B * mkN 1 B n) = _
      rw [Nat.mul_add, Nat.mul_left_comm]
    rw [e, em]
    have := Nat.mul_le_mul_left B h1
    have := hf 0
    omega
theorem pk_bit : ∀ (n k : Nat) (f : Nat → Nat), (∀ i, f i ≤ 1) → (pkN 2 f n).testBit k = (decide (k < n) && decide (f k = 1)) := by
  intro n
  induction n with
  | zero => intro k f _; simp [pkN]
  | succ n ih =>
    intro k f hf
    have e : pkN 2 f (n + 1) = f 0 + 2 * pkN 2 (fun i => f (i + 1)) n := rfl
    rw [e]
    have h0 := hf 0
    cases k with
    | zero =>
      rw [Nat.testBit_zero]
      have : (f 0 + 2 * pkN 2 (fun i => f (i + 1)) n) % 2 = f 0 := by omega
      rw [this]
      simp
    | succ k =>
      rw [Nat.testBit_succ]
      have : (f 0 + 2 * pkN 2 (fun i => f (i + 1)) n) / 2 = pkN 2 (fun i => f (i + 1)) n := by omega
      rw [this, ih k _ (fun i => hf _)]
      simp
theorem nI_bv (n : Nat) : (nI n).toBitVec = BitVec.ofNat 32 n := rfl
theorem nI_land (a b : Nat) : nI a &&& nI b = nI (a &&& b) := by
  apply Int32.toBitVec_inj.mp
  rw [Int32.toBitVec_and, nI_bv, nI_bv, nI_bv]
  apply BitVec.eq_of_toNat_eq
  rw [BitVec.toNat_and, BitVec.toNat_ofNat, BitVec.toNat_ofNat, BitVec.toNat_ofNat, Nat.and_mod_two_pow]
theorem nI_sub {a b : Nat} (h : b ≤ a) : nI a - nI b = nI (a - b) := by
  have : nI a = nI (a - b) + nI b := by rw [nI_add]; congr 1; omega
  rw [this, Int32.add_sub_cancel]
theorem nI_shr {X : Nat} (hX : X < 2 ^ 32) (c : UInt32) (k : Nat) (hk : c.toNat % 32 = k) : ((nI X).toUInt32 >>> c).toInt32 = nI (X / 2 ^ k) := by
  apply Int32.toBitVec_inj.mp
  show ((nI X).toUInt32 >>> c).toBitVec = _
  rw [UInt32.toBitVec_shiftRight, nI_bv]
  apply BitVec.eq_of_toNat_eq
  show (BitVec.ofNat 32 X >>> (c.toBitVec % 32)).toNat = _
  rw [BitVec.ushiftRight_eq', BitVec.toNat_ushiftRight, BitVec.toNat_ofNat, BitVec.toNat_ofNat, BitVec.toNat_umod, Nat.mod_eq_of_lt hX]
  have e : c.toBitVec.toNat % (32 : BitVec 32).toNat = k := hk
  rw [e, Nat.shiftRight_eq_div_pow, Nat.mod_eq_of_lt (Nat.lt_of_le_of_lt (Nat.div_le_self _ _) hX)]
def bitN (x : Int32) (i : Nat) : Nat := if tb x i then 1 else 0
theorem bitN_le (x : Int32) (i : Nat) : bitN x i ≤ 1 := by unfold bitN; split <;> omega
theorem pk_x (x : Int32) : x = nI (pkN 2 (bitN x) 32) := by
  refine tb_ext (fun k hk => ?_)
  have : tb (nI (pkN 2 (bitN x) 32)) k = (pkN 2 (bitN x) 32).testBit k := by
    unfold tb
    rw [nI_bv, BitVec.getLsbD_ofNat]
    simp [hk]
  rw [this, pk_bit 32 k _ (bitN_le x)]
  unfold bitN
  cases z : tb x k <;> simp [hk]
theorem pop_nat (f : Nat → Nat) (hf : ∀ i, f i ≤ 1) : ∃ g : Nat → Nat, (∀ i, g i ≤ 8) ∧ g 0 + g 1 + g 2 + g 3 = cnt (fun i => decide (f i = 1)) 32 ∧
    ∀ (x y z u v : Nat), x = pkN 2 f 32 → y = x - ((x / 2) &&& 1431655765) → z = (y &&& 858993459) + ((y / 4) &&& 858993459) → u = (z + z / 16) &&& 252645135 → v = u + u / 256 → (v + v / 65536) &&& 63 = g 0 + g 1 + g 2 + g 3 ∧ (x / 2) &&& 1431655765 ≤ x ∧ x < 2 ^ 32 ∧ y < 2 ^ 32 ∧ z < 2 ^ 32 ∧ u < 2 ^ 32 ∧ v < 2 ^ 32 := by
  have m1 : mkN 1 4 16 = 1431655765 := by decide
  have m2 : mkN 3 16 8 = 858993459 := by decide
  have m3 : mkN 15 256 4 = 252645135 := by decide
  obtain ⟨a1, a2⟩ := pcA 16 f hf
  have b1 := pcB 8 (fun i => f (2 * i) + f (2 * i + 1)) (fun i => by have := hf (2 * i); have := hf (2 * i + 1); show f (2 * i) + f (2 * i + 1) ≤ 2; omega)
  have hd4 : ∀ i, (fun i => (fun i => f (2 * i) + f (2 * i + 1)) (2 * i) + (fun i => f (2 * i) + f (2 * i + 1)) (2 * i + 1)) i ≤ 4 := by
    intro i
    have q1 := hf (2 * (2 * i)); have q2 := hf (2 * (2 * i) + 1); have q3 := hf (2 * (2 * i + 1)); have q4 := hf (2 * (2 * i + 1) + 1)
    show f (2 * (2 * i)) + f (2 * (2 * i) + 1) + (f (2 * (2 * i + 1)) + f (2 * (2 * i + 1) + 1)) ≤ 4
    omega
  have c1 := pcC 4 (fun i => (fun i => f (2 * i) + f (2 * i + 1)) (2 * i) + (fun i => f (2 * i) + f (2 * i + 1)) (2 * i + 1)) hd4
  rw [m1] at a1 a2
  rw [m2] at b1
  rw [m3] at c1
  have l1 := pkNle (B := 2) 32 f hf
  have l2 := pkNle (B := 4) (c := 2) 16 (fun i => f (2 * i) + f (2 * i + 1)) (fun i => by have := hf (2 * i); have := hf (2 * i + 1); show f (2 * i) + f (2 * i + 1) ≤ 2; omega)
  have l3 := pkNle (B := 16) (c := 4) 8 _ hd4
  have n1 : mkN 1 2 32 = 4294967295 := by decide
  have n2 : mkN 1 4 16 = 1431655765 := by decide
  have n3 : mkN 1 16 8 = 286331153 := by decide
  rw [n1] at l1
  rw [n2] at l2
  rw [n3] at l3
  refine ⟨fun i => (fun i => (fun i => f (2 * i) + f (2 * i + 1)) (2 * i) + (fun i => f (2 * i) + f (2 * i + 1)) (2 * i + 1)) (2 * i) + (fun i => (fun i => f (2 * i) + f (2 * i + 1)) (2 * i) + (fun i => f (2 * i) + f (2 * i + 1)) (2 * i + 1)) (2 * i + 1), fun i => ?_, ?_, ?_⟩
  · have q1 := hd4 (2 * i)
    have q2 := hd4 (2 * i + 1)
    exact Nat.add_le_add q1 q2
  · have ii : ∀ i, (if decide (f i = 1) = true then 1 else 0) = f i := by
      intro i
      have := hf i
      by_cases q : f i = 1
      · rw [q]; rfl
      · rw [if_neg (by rw [decide_eq_true_iff]; exact q)]; omega
    simp only [cnt, ii, Nat.reduceMul, Nat.reduceAdd]
    omega
  · intro x y z u v hx hy hz hu hv
    have g8 : ∀ i, (fun i => (fun i => (fun i => f (2 * i) + f (2 * i + 1)) (2 * i) + (fun i => f (2 * i) + f (2 * i + 1)) (2 * i + 1)) (2 * i) + (fun i => (fun i => f (2 * i) + f (2 * i + 1)) (2 * i) + (fun i => f (2 * i) + f (2 * i + 1)) (2 * i + 1)) (2 * i + 1)) i ≤ 8 := fun i => Nat.add_le_add (hd4 (2 * i)) (hd4 (2 * i + 1))
    have hx' : x = pkN 2 f (2 * 16) := hx
    have hy' : y = pkN 4 (fun i => f (2 * i) + f (2 * i + 1)) (2 * 8) := by rw [hy, hx']; exact a1
    have hz' : z = pkN 16 (fun i => (fun i => f (2 * i) + f (2 * i + 1)) (2 * i) + (fun i => f (2 * i) + f (2 * i + 1)) (2 * i + 1)) (2 * 4) := by rw [hz, hy']; exact b1
    have hu' : u = pkN 256 (fun i => (fun i => (fun i => f (2 * i) + f (2 * i + 1)) (2 * i) + (fun i => f (2 * i) + f (2 * i + 1)) (2 * i + 1)) (2 * i) + (fun i => (fun i => f (2 * i) + f (2 * i + 1)) (2 * i) + (fun i => f (2 * i) + f (2 * i + 1)) (2 * i + 1)) (2 * i + 1)) 4 := by rw [hu, hz']; exact c1
    have ly : y ≤ 2 * 1431655765 := by rw [hy']; exact l2
    have lz : z ≤ 4 * 286331153 := by rw [hz']; exact l3
    have lx : x ≤ 1 * 4294967295 := by rw [hx']; exact l1
    revert hu' g8
    generalize (fun i => (fun i => (fun i => f (2 * i) + f (2 * i + 1)) (2 * i) + (fun i => f (2 * i) + f (2 * i + 1)) (2 * i + 1)) (2 * i) + (fun i => (fun i => f (2 * i) + f (2 * i + 1)) (2 * i) + (fun i => f (2 * i) + f (2 * i + 1)) (2 * i + 1)) (2 * i + 1)) = g
    intro g8 hu'
    have eu : u = g 0 + 256 * (g 1 + 256 * (g 2 + 256 * (g 3 + 256 * 0))) := hu'
    have q0 := g8 0; have q1 := g8 1; have q2 := g8 2; have q3 := g8 3
    refine ⟨?_, ?_, by omega, by omega, by omega, by omega, by omega⟩
    · clear hz' hy' hx' hz hy hx hu hu' lx ly lz l1 l2 l3 a1 a2 b1 c1
      have d1 : u / 256 = g 1 + 256 * (g 2 + 256 * g 3) := by omega
      have d2 : v / 65536 = g 2 + g 3 + 256 * g 3 := by omega
      have d3 : v + v / 65536 = (g 0 + g 1 + g 2 + g 3) + 64 * (4 * (g 1 + g 2) + 1024 * (g 2 + g 3) + 4 * g 3 + 262144 * g 3) := by omega
      rw [show (63 : Nat) = 2 ^ 6 - 1 by decide, Nat.and_two_pow_sub_one_eq_mod, d3, show (2 : Nat) ^ 6 = 64 by decide, Nat.add_mul_mod_self_left, Nat.mod_eq_of_lt (by omega)]
    · rw [hx']; exact a2
theorem e_pop {Wt : Type} (x : Int32) (w : Wt) : f_J6_bitCount_0f7a4 x w = some (nI (cnt (tb x) 32), w) := by
  obtain ⟨g, g1, g2, g3⟩ := pop_nat (bitN x) (bitN_le x)
  have hc : cnt (fun i => decide (bitN x i = 1)) 32 = cnt (tb x) 32 := cnt_congr (fun k _ => by unfold bitN; cases tb x k <;> rfl)
  obtain ⟨h1, h2, h3, h4, h5, h6, h7⟩ := g3 _ _ _ _ _ rfl rfl rfl rfl rfl
  rw [← hc, ← g2, ← h1]
  have s1 := nI_shr h3 ((1 : Int32).toUInt32 &&& Int32.toUInt32 31) 1 (by decide)
  have s2 := nI_shr h4 ((2 : Int32).toUInt32 &&& Int32.toUInt32 31) 2 (by decide)
  have s3 := nI_shr h5 ((4 : Int32).toUInt32 &&& Int32.toUInt32 31) 4 (by decide)
  have s4 := nI_shr h6 ((8 : Int32).toUInt32 &&& Int32.toUInt32 31) 8 (by decide)
  have s5 := nI_shr h7 ((16 : Int32).toUInt32 &&& Int32.toUInt32 31) 16 (by decide)
  have k1 : (1431655765 : Int32) = nI 1431655765 := rfl
  have k2 : (858993459 : Int32) = nI 858993459 := rfl
  have k3 : (252645135 : Int32) = nI 252645135 := rfl
  have k4 : (63 : Int32) = nI 63 := rfl
  have hx := pk_x x
  unfold f_J6_bitCount_0f7a4
  generalize pkN 2 (bitN x) 32 = X at *
  subst hx
  refine congrArg (fun q => some (q, w)) ?_
  rw [s1, k1, nI_land, nI_sub h2, k2]
  rw [s2, nI_land, nI_land, nI_add, s3, nI_add, k3, nI_land, s4, nI_add, s5, nI_add, k4, nI_land]
