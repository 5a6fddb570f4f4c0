/-! PURE: the class's state w and the model's row s show the same (Sim), with what always holds of them -/
def okr (p v : Int32) : Prop := v = -1 ∨ ∃ k, k < 24 ∧ v = nI k ∧ tb p k = true
def gA (p wn g b : Int32) : Prop := S24 p ∧ S24 wn ∧ S24 g ∧ S24 b ∧ (∀ k, tb wn k = true → tb p k = true) ∧ (∀ k, tb g k = true → tb p k = true) ∧ (∀ k, tb b k = true → tb p k = true) ∧ (∀ k, tb g k = true → tb b k = false)
def gP (p : Int32) (s : Nat → Int32) : Prop := ∀ k, k < 24 → s (7 * k) = if tb p k then 1 else 0
def gF (p : Int32) (F s : Nat → Int32) : Prop := ∀ k f, k < 24 → f < 3 → okr p (F (3 * k + f)) ∧ (tb p k = true → s (7 * k + (1 + f)) = F (3 * k + f)) ∧ (tb p k = false → F (3 * k + f) = -1)
def gW (p wn : Int32) (s : Nat → Int32) : Prop := ∀ k, k < 24 → tb p k = true → s (7 * k + 4) = if tb wn k then 1 else 0
def gCo (p g b : Int32) (s : Nat → Int32) : Prop := ∀ k, k < 24 → tb p k = true → s (7 * k + 5) = if tb b k then 2 else if tb g k then 1 else 0
def gE (p n : Int32) (bb s : Nat → Int32) : Prop := ∀ k, k < 24 → tb p k = true → s (7 * k + 6) = n - bb k
def gL (n : Int32) (v : Nat → Int32) (l : List Nat) (s : Nat → Int32) (base : Nat) : Prop := Lst n v l ∧ s base = n ∧ ∀ j, j < l.length → s (base + 1 + j) = v j
def gR (p : Int32) (R s : Nat → Int32) (base : Nat) : Prop := ∀ j, j < 4 → okr p (R j) ∧ s (base + j) = R j
def gNu (w : Nat → Int32) (s : Nat → Int32) : Prop := s 226 = w 15 ∧ s 227 = w 18 ∧ s 228 = w 19 ∧ s 229 = w 11 ∧ s 230 = w 22 ∧ s 231 = w 12 ∧ s 232 = w 20 ∧ s 233 = w 21 ∧ s 234 = w 10
def gI (w : Nat → Int32) (B : Nat) : Prop := (w 15 = 0 ∨ w 15 = 1 ∨ w 15 = 2 ∨ w 15 = 3) ∧ (w 10 = 1 ∨ w 10 = 2) ∧ (∃ f, f ≤ 24 ∧ w 18 = nI f) ∧ ∃ n, n ≤ B ∧ w 19 = nI n
def nw (g b : Int32) (k : Nat) : Prop := tb g k = true ∨ tb b k = true
/-- white ones that a grey one protects, by a chain of white ones -/
def PW (g b : Int32) (F : Nat → Int32) : Nat → Nat → Prop
  | 0, _ => False
  | n + 1, x => ¬ nw g b x ∧ ∃ y, y < 24 ∧ edge F y x ∧ (tb g y = true ∨ PW g b F n y)
def safe (care g b : Int32) (F : Nat → Int32) (k : Nat) : Prop := nw g b k ∨ (care = 2 ∧ ∃ n, PW g b F n k)
/-- in marking and finishing -/
def gM (care g b : Int32) (F R : Nat → Int32) (li : List Nat) : Prop := (∀ k ∈ li, nw g b k) ∧ (∀ k, k < 24 → rootS R k → safe care g b F k) ∧ ∀ k j, k < 24 → j < 24 → tb b k = true → edge F k j → safe care g b F j
def kept (b : Int32) (from' : Nat) (k : Nat) : Prop := k < from' ∨ tb b k = true
/-- in sweeping -/
def gK3 (p g b : Int32) (from' : Nat) (F R Hd : Nat → Int32) (li : List Nat) : Prop := g = 0 ∧ (∀ k, tb b k = true → from' ≤ k) ∧ (∀ k ∈ li, kept b from' k) ∧ (∀ k, k < 24 → rootS R k → kept b from' k) ∧ (∀ k, k < 24 → rootS Hd k → kept b from' k) ∧ ∀ k j, k < 24 → j < 24 → tb p k = true → kept b from' k → edge F k j → kept b from' j
def gCol (pt g b care p fr : Int32) (F R Hd : Nat → Int32) (li : List Nat) : Prop := (pt = 0 → g = 0 ∧ b = 0) ∧ (pt = 1 ∨ pt = 2 → gM care g b F R li) ∧ (pt = 3 → ∀ f, f ≤ 24 → fr = nI f → gK3 p g b f F R Hd li)
def gO (p : Int32) (li : List Nat) : Prop := li.Nodup ∧ ∀ k ∈ li, tb p k = true
def gG (g : Int32) (rw : List Nat) : Prop := rw.Nodup ∧ ∀ k, k ∈ rw ↔ tb g k = true
def SimB (w : St) (s : Nat → Int32) (B : Nat) (ex rw li : List Nat) : Prop :=
  gA (w.1 13) (w.1 14) (w.1 16) (w.1 17) ∧ gP (w.1 13) s ∧ gF (w.1 13) (w.2 1) s ∧ gW (w.1 13) (w.1 14) s ∧ gCo (w.1 13) (w.1 16) (w.1 17) s ∧ gE (w.1 13) (w.1 19) (w.2 6) s ∧ gL (w.1 24) (w.2 5) rw s 168 ∧ gG (w.1 16) (ex ++ rw) ∧ gL (w.1 23) (w.2 4) li s 193 ∧ gO (w.1 13) li ∧ gR (w.1 13) (w.2 2) s 218 ∧ gR (w.1 13) (w.2 3) s 222 ∧ gNu w.1 s ∧ gI w.1 B
def SimL (w : St) (s : Nat → Int32) (B : Nat) (rw li : List Nat) : Prop := SimB w s B [] rw li ∧ gCol (w.1 15) (w.1 16) (w.1 17) (w.1 10) (w.1 13) (w.1 18) (w.2 1) (w.2 2) (w.2 3) li
def Sim (w : St) (s : Nat → Int32) (B : Nat) : Prop := ∃ rw li, SimL w s B rw li
theorem tb_lt {x : Int32} (h : S24 x) {k : Nat} (hk : tb x k = true) : k < 24 := by
  rcases Nat.lt_or_ge k 24 with q | q
  · exact q
  · rw [h k q] at hk; cases hk
/-! small functions of the model -/
def inI (x a b : Int32) : Int32 := if x < a then 0 else if b < x then 0 else 1
theorem e_in {Wt : Type} (x a b : Int32) (w : Wt) : f_X7_in x a b w = some (inI x a b, w) := by
  unfold f_X7_in inI
  split
  · rfl
  · split <;> rfl
theorem in_isI (x : Int32) (n : Nat) (hn : n < 1000) : inI x 0 (nI n) = isI x (nI (n + 1)) := by
  unfold inI isI
  by_cases h : x < 0
  · rw [if_pos h, if_pos h]
  · rw [if_neg h, if_neg h]
    obtain ⟨j, hj, rfl⟩ := nI_of h
    by_cases h2 : j ≤ n
    · rw [if_neg (fun q => by have := (nI_ltI (by omega) (by omega)).mp q; omega), if_pos ((nI_ltI (by omega) (by omega)).mpr (by omega))]
    · rw [if_pos ((nI_ltI (by omega) (by omega)).mpr (by omega)), if_neg (fun q => by have := (nI_ltI (by omega) (by omega)).mp q; omega)]
theorem isI_01 (x y : Int32) : isI x y = 0 ∨ isI x y = 1 := by
  unfold isI
  split
  · exact Or.inl rfl
  · split
    · exact Or.inr rfl
    · exact Or.inl rfl
theorem e_isRoot {Wt : Type} (x : Int32) (w : Wt) : f_X7_isRoot x w = some (isI x 4, w) := by
  unfold f_X7_isRoot
  rw [e_in, show inI x 0 3 = isI x 4 from in_isI x 3 (by omega)]
  simp only [Option.bind_some, isI_01, if_true]
theorem e_of0 {k : Nat} (hk : k < 24) (m : St) : f_X7_of (nI k) 0 m = some (m.2 0 (7 * k), m) := e_of (j := 0) (by omega)
theorem e_of4 {k : Nat} (hk : k < 24) (m : St) : f_X7_of (nI k) 4 m = some (m.2 0 (7 * k + 4), m) := e_of (j := 4) (by omega)
theorem e_of5 {k : Nat} (hk : k < 24) (m : St) : f_X7_of (nI k) 5 m = some (m.2 0 (7 * k + 5), m) := e_of (j := 5) (by omega)
theorem e_of6 {k : Nat} (hk : k < 24) (m : St) : f_X7_of (nI k) 6 m = some (m.2 0 (7 * k + 6), m) := e_of (j := 6) (by omega)
theorem e_isObject {p : Int32} {m : St} (hP : gP p (m.2 0)) (x : Int32) : f_X7_isObject x m = some (hasI p x, m) := by
  unfold f_X7_isObject
  rw [e_in, show inI x 0 23 = isI x 24 from in_isI x 23 (by omega)]
  rcases rng x 24 (by omega) with ⟨k, hk, rfl⟩ | h | ⟨h1, h2⟩
  · simp (disch := omega) only [isI_in, Option.bind_some, oz, if_false, e_of0 hk, hP k hk, hasI_nI hk]
    rcases Bool.eq_false_or_eq_true (tb p k) with h | h
    · simp only [h, if_true]
    · simp only [h, Bool.false_eq_true, if_false]
      rw [if_neg (by decide)]
  · simp only [isI_neg h, Option.bind_some, if_true, hasI_neg h]
  · simp only [isI_big (y := 24) h2, Option.bind_some, if_true, hasI_big h2]
theorem e_rooted_loop {p : Int32} {R : Nat → Int32} {m : St} (hR : gR p R (m.2 0) 218) (x1 : Int32) : ∀ (n k : Nat) (acc : Int32), k ≤ 4 → 4 - k < n → S24 acc → ∃ r, f_X7_rooted_L4 n x1 acc (nI k) m = some (r, m) ∧ S24 r ∧ ∀ j, j < 24 → (tb r j = true ↔ tb acc j = true ∨ ∃ i, k ≤ i ∧ i < 4 ∧ R i = nI j ∧ ¬ x1 = nI j) := by
  intro n
  induction n with
  | zero => intro k acc _ h; omega
  | succ n ih =>
    intro k acc hk hn h24
    by_cases h : k < 4
    · have hv := (hR k h).2
      have hstep : f_X7_rooted_L4 (n + 1) x1 acc (nI k) m = (if R k < 0 then f_X7_rooted_L4 n x1 acc (nI (k + 1)) m else if R k = x1 then f_X7_rooted_L4 n x1 acc (nI (k + 1)) m else f_X7_rooted_L4 n x1 (acc ||| (1 <<< (R k &&& 31))) (nI (k + 1)) m) := by
        have h235 : 218 + k < 235 := by omega
        rw [f_X7_rooted_L4]
        simp (disch := omega) only [ltL, h, if_true, addL, ibN, clN, h235, hv, or_0, addR]
      rw [hstep]
      rcases (hR k h).1 with hv2 | ⟨j0, hj0, hv2, _⟩
      · obtain ⟨r, e, r1, r2⟩ := ih (k + 1) acc (by omega) (by omega) h24
        rw [hv2, if_pos (by decide)]
        refine ⟨r, e, r1, fun j hj => ?_⟩
        rw [r2 j hj]
        constructor
        · rintro (a | ⟨i, a1, a2, a3⟩)
          · exact Or.inl a
          · exact Or.inr ⟨i, by omega, a2, a3⟩
        · rintro (a | ⟨i, a1, a2, a3, a4⟩)
          · exact Or.inl a
          · by_cases e : i = k
            · subst e; rw [hv2] at a3; exact absurd a3.symm (nI_ne_m1 (by omega))
            · exact Or.inr ⟨i, by omega, a2, a3, a4⟩
      · rw [hv2, if_neg (nI_pos (by omega))]
        by_cases hx : nI j0 = x1
        · obtain ⟨r, e, r1, r2⟩ := ih (k + 1) acc (by omega) (by omega) h24
          rw [if_pos hx]
          refine ⟨r, e, r1, fun j hj => ?_⟩
          rw [r2 j hj]
          constructor
          · rintro (a | ⟨i, a1, a2, a3⟩)
            · exact Or.inl a
            · exact Or.inr ⟨i, by omega, a2, a3⟩
          · rintro (a | ⟨i, a1, a2, a3, a4⟩)
            · exact Or.inl a
            · by_cases e : i = k
              · subst e; rw [hv2] at a3; exact absurd (hx.symm.trans a3) a4
              · exact Or.inr ⟨i, by omega, a2, a3, a4⟩
        · obtain ⟨r, e, r1, r2⟩ := ih (k + 1) (acc ||| bI (nI j0)) (by omega) (by omega) (S24_or h24 (S24_bI _))
          rw [if_neg hx, sh_bI hj0]
          refine ⟨r, e, r1, fun j hj => ?_⟩
          rw [r2 j hj, tb_or, tb_bI hj0, Bool.or_eq_true, decide_eq_true_iff]
          constructor
          · rintro ((a | a) | ⟨i, a1, a2, a3⟩)
            · exact Or.inl a
            · subst a; exact Or.inr ⟨k, Nat.le_refl k, h, hv2, fun q => hx q.symm⟩
            · exact Or.inr ⟨i, by omega, a2, a3⟩
          · rintro (a | ⟨i, a1, a2, a3, a4⟩)
            · exact Or.inl (Or.inl a)
            · by_cases e : i = k
              · subst e
                rw [hv2] at a3
                exact Or.inl (Or.inr (nI_inj (by omega) (by omega) a3).symm)
              · exact Or.inr ⟨i, by omega, a2, a3, a4⟩
    · have h4 : k = 4 := by omega
      subst h4
      refine ⟨acc, ?_, h24, fun j hj => ⟨Or.inl, fun q => q.elim id (fun ⟨i, a1, a2, _⟩ => by omega)⟩⟩
      rw [f_X7_rooted_L4]
      simp (disch := omega) only [ltL, if_false, Nat.lt_irrefl]
theorem good_of {p : Int32} {F s : Nat → Int32} (hF : gF p F s) : goodC s (fun k => tb p k = true) := by
  intro k hk hp f hf
  obtain ⟨h1, h2, _⟩ := hF k f hk hf
  rw [h2 hp]
  rcases h1 with h | ⟨j, a, b, c⟩
  · exact Or.inl h
  · exact Or.inr ⟨j, a, c, b⟩
theorem edge_mF {p : Int32} {F s : Nat → Int32} (hF : gF p F s) {k j : Nat} (hk : k < 24) (hp : tb p k = true) : edge (mF s) k j ↔ edge F k j := by
  constructor
  · rintro ⟨f, hf, e⟩
    rw [mF_at _ hf, (hF k f hk hf).2.1 hp] at e
    exact ⟨f, hf, e⟩
  · rintro ⟨f, hf, e⟩
    refine ⟨f, hf, ?_⟩
    rw [mF_at _ hf, (hF k f hk hf).2.1 hp]
    exact e
theorem root_ok {p : Int32} {R s : Nat → Int32} {base : Nat} (hR : gR p R s base) {j : Nat} (hj : j < 24) (h : rootS R j) : tb p j = true := by
  obtain ⟨i, hi, e⟩ := h
  rcases (hR i hi).1 with q | ⟨k, a, b, c⟩
  · rw [q] at e; exact absurd e.symm (nI_ne_m1 (by omega))
  · rw [b] at e
    have := nI_inj (by omega) (by omega) e
    subst this
    exact c
theorem e_rooted {p : Int32} {F R : Nat → Int32} {m : St} (hF : gF p F (m.2 0)) (hR : gR p R (m.2 0) 218) (x1 : Int32) : ∃ Q, f_X7_rooted x1 m = some (Q, m) ∧ IsCl F (rootS R) (fun j => x1 = nI j) Q ∧ ∀ j, j < 24 → tb Q j = true → tb p j = true := by
  obtain ⟨r, e, r1, r2⟩ := e_rooted_loop hR x1 BIG 0 0 (by omega) (by unfold BIG; omega) S24_0
  have hr : ∀ j, j < 24 → (tb r j = true ↔ rootS R j ∧ ¬ x1 = nI j) := by
    intro j hj
    rw [r2 j hj, tb_0]
    constructor
    · rintro (a | ⟨i, _, a2, a3, a4⟩)
      · cases a
      · exact ⟨⟨i, a2, a3⟩, a4⟩
    · rintro ⟨⟨i, a2, a3⟩, a4⟩
      exact Or.inr ⟨i, Nat.zero_le _, a2, a3, a4⟩
  obtain ⟨Q, e2, q1, q2⟩ := e_spreads (good_of hF) r x1 r1 (fun j hj a => root_ok hR hj ((hr j hj).mp a).1) (fun j hj a => ((hr j hj).mp a).2)
  refine ⟨Q, ?_, ?_, q1⟩
  · unfold f_X7_rooted
    simp only [show f_X7_rooted_L4 BIG x1 0 0 m = some (r, m) from e, e2, Option.bind_some]
  · obtain ⟨c0, c1, c2, c3⟩ := q2
    refine ⟨c0, fun j hj a b => c1 j hj ((hr j hj).mpr ⟨a, b⟩) b, fun k j hk hj a b c => c2 k j hk hj a ((edge_mF hF hk (q1 k hk a)).mpr b) c, fun C d1 d2 j hj a => ?_⟩
    have := c3 (fun j => C j ∧ tb Q j = true) (fun j hj a b => ⟨d1 j hj ((hr j hj).mp a).1 b, c1 j hj a b⟩) (fun k j hk hj a b c => ⟨d2 k j hk hj a.1 ((edge_mF hF hk (q1 k hk a.2)).mp b) c, c2 k j hk hj a.2 b c⟩) j hj a
    exact this.1
theorem m1_nI : ∀ j, j < 24 → ((-1 : Int32) = nI j ↔ noX j) := fun j hj => ⟨fun h => absurd h.symm (nI_ne_m1 (by omega)), fun h => h.elim⟩
theorem reached_loop {m : St} {n0 : Int32} {v : Nat → Int32} {l : List Nat} (hl : gL n0 v l (m.2 0) 193) : ∀ (n k : Nat) (acc : Int32), k ≤ l.length → l.length - k < n → S24 acc → ∃ r, f_X7_reached_L8 n acc (nI k) m = some (r, m) ∧ S24 r ∧ ∀ j, j < 24 → (tb r j = true ↔ tb acc j = true ∨ ∃ i, ∃ h : i < l.length, k ≤ i ∧ l[i] = j) := by
  obtain ⟨⟨h1, hle, hv⟩, hs0, hs⟩ := hl
  have h193 : ib 193 235 := by decide
  intro n
  induction n with
  | zero => intro k acc _ h; omega
  | succ n ih =>
    intro k acc hk hn h24
    by_cases h : k < l.length
    · have hk24 := (hv k h).2
      obtain ⟨r, e, r1, hr⟩ := ih (k + 1) (acc ||| bI (nI l[k])) (by omega) (by omega) (S24_or h24 (S24_bI _))
      refine ⟨r, ?_, r1, fun j hj => ?_⟩
      · rw [f_X7_reached_L8]
        have hlt : nI k < nI l.length := (nI_ltI (by omega) (by omega)).mpr h
        have h235 : 194 + k < 235 := by omega
        have h4 : m.2 0 (194 + k) = nI l[k] := (hs k h).trans (hv k h).1
        simp (disch := omega) only [h193, if_true, show (193 : Int32).toNatClampNeg = 193 by decide, hs0, h1, hlt, addL, ibN, clN, h235, h4, sh_bI, addR]
        exact e
      · rw [hr j hj, tb_or, tb_bI hk24, Bool.or_eq_true, decide_eq_true_iff]
        constructor
        · rintro ((a | a) | ⟨i, a1, a2, a3⟩)
          · exact Or.inl a
          · exact Or.inr ⟨k, h, Nat.le_refl k, a.symm⟩
          · exact Or.inr ⟨i, a1, by omega, a3⟩
        · rintro (a | ⟨i, a1, a2, a3⟩)
          · exact Or.inl (Or.inl a)
          · by_cases e : i = k
            · subst e; exact Or.inl (Or.inr a3.symm)
            · exact Or.inr ⟨i, a1, by omega, a3⟩
    · have h4 : k = l.length := by omega
      refine ⟨acc, ?_, h24, fun j hj => ⟨Or.inl, fun q => q.elim id (fun ⟨i, a1, a2, _⟩ => by omega)⟩⟩
      rw [f_X7_reached_L8, if_pos h193]
      have hlt : ¬ nI k < nI l.length := fun q => by have := (nI_ltI (by omega) (by omega)).mp q; omega
      simp only [show (193 : Int32).toNatClampNeg = 193 by decide, hs0, h1, hlt, if_false]
theorem e_reached {p : Int32} {F R : Nat → Int32} {m : St} {n0 : Int32} {v : Nat → Int32} {l : List Nat} (hF : gF p F (m.2 0)) (hR : gR p R (m.2 0) 218) (hl : gL n0 v l (m.2 0) 193) (hO : gO p l) : ∃ Q, f_X7_reached m = some (Q, m) ∧ IsCl F (fun j => rootS R j ∨ j ∈ l) noX Q ∧ ∀ j, j < 24 → tb Q j = true → tb p j = true := by
  obtain ⟨Q0, e, hQ0, q0⟩ := e_rooted hF hR (-1)
  have hQ0 := IsCl_congr (fun _ _ => Iff.rfl) m1_nI (fun _ _ _ _ _ => Iff.rfl) (fun _ _ _ _ _ h => h) hQ0
  obtain ⟨r, e1, r1, r2⟩ := reached_loop hl BIG 0 Q0 (by omega) (by have := hl.1.2.1; unfold BIG; omega) hQ0.1
  have hr : ∀ j, j < 24 → (tb r j = true ↔ tb Q0 j = true ∨ j ∈ l) := by
    intro j hj
    rw [r2 j hj]
    constructor
    · rintro (a | ⟨i, a1, _, a3⟩)
      · exact Or.inl a
      · exact Or.inr (a3 ▸ List.getElem_mem a1)
    · rintro (a | a)
      · exact Or.inl a
      · obtain ⟨i, hi, he⟩ := List.getElem_of_mem a
        exact Or.inr ⟨i, hi, Nat.zero_le _, he⟩
  obtain ⟨Q, e2, q1, q2⟩ := e_spreads (good_of hF) r (-1) r1 (fun j hj a => ((hr j hj).mp a).elim (q0 j hj) (hO.2 j)) (fun j hj _ h => nI_ne_m1 (by omega) h.symm)
  refine ⟨Q, ?_, ?_, q1⟩
  · unfold f_X7_reached
    simp only [e, show f_X7_reached_L8 BIG Q0 0 m = some (r, m) from e1, e2, Option.bind_some]
  · obtain ⟨c0, c1, c2, c3⟩ := q2
    have nox : ∀ j, j < 24 → ¬ (-1 : Int32) = nI j := fun j hj h => nI_ne_m1 (by omega) h.symm
    refine ⟨c0, fun j hj a _ => c1 j hj ((hr j hj).mpr (a.elim (fun a => Or.inl (hQ0.2.1 j hj a id)) Or.inr)) (nox j hj), fun k j hk hj a b _ => c2 k j hk hj a ((edge_mF hF hk (q1 k hk a)).mpr b) (nox j hj), fun C d1 d2 j hj a => ?_⟩
    have := c3 (fun j => C j ∧ tb Q j = true) (fun j hj a b => ⟨?_, c1 j hj a b⟩) (fun k j hk hj a b c => ⟨d2 k j hk hj a.1 ((edge_mF hF hk (q1 k hk a.2)).mp b) id, c2 k j hk hj a.2 b c⟩) j hj a
    · exact this.1
    · rcases (hr j hj).mp a with a | a
      · exact hQ0.2.2.2 C (fun j hj a _ => d1 j hj (Or.inl a) id) (fun k j hk hj a b _ => d2 k j hk hj a b id) j hj a
      · exact d1 j hj (Or.inr a) id
