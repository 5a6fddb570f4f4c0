/-! PURE: what is told -/
def Qry (w m : St) (c mo : Option (Int32 × St)) : Prop := ∃ v, c = some (v, w) ∧ mo = some (v, m)
theorem roots_both {w m : St} {B : Nat} {ex rw li : List Nat} (h : SimB w (m.2 0) B ex rw li) : ∃ Q, f_X1_reachedByRoots w = some (Q, w) ∧ f_X7_rooted (-1) m = some (Q, m) ∧ S24 Q := by
  obtain ⟨Q, e1, c1⟩ := e_reachedByRoots w
  obtain ⟨Q', e2, c2, c3⟩ := e_rooted h.2.2.1 h.2.2.2.2.2.2.2.2.2.2.1 (-1)
  have c2' := IsCl_congr (fun _ _ => Iff.rfl) m1_nI (fun _ _ _ _ _ => Iff.rfl) (fun _ _ _ _ _ h => h) c2
  rw [IsCl_uniq c1 c2'] at e1
  exact ⟨Q', e1, e2, c2.1⟩
theorem place_loop {w m : St} {B : Nat} {ex rw li : List Nat} (h : SimB w (m.2 0) B ex rw li) (x : Int32) : ∀ (n j : Nat), j ≤ li.length → li.length - j < n → ∃ r, f_X3_placeOf_5_L2 n x (nI j) w = some (r, w) ∧ f_X7_placeIn_L2 n x (nI j) m = some (r, m) := by
  obtain ⟨⟨l1, l2, l3⟩, l4, l5⟩ := h.2.2.2.2.2.2.2.2.1
  have h193 : ib 193 235 := by decide
  have hx : m.2 0 (193 : Int32).toNatClampNeg = nI li.length := by
    rw [show (193 : Int32).toNatClampNeg = 193 by decide]; exact l4.trans l1
  intro n
  induction n with
  | zero => intro j _ h; omega
  | succ n ih =>
    intro j hj hn
    by_cases hlt : j < li.length
    · have hlt' : nI j < nI li.length := (nI_ltI (by omega) (by omega)).mpr hlt
      have h24 : j < 24 := by omega
      have h235 : 194 + j < 235 := by omega
      have hv := (l3 j hlt).1
      have hs : m.2 0 (194 + j) = nI li[j] := (l5 j hlt).trans hv
      rw [f_X3_placeOf_5_L2, f_X7_placeIn_L2, l1, if_pos hlt', if_pos h193, hx, if_pos hlt']
      simp (disch := omega) only [ltL, h24, if_true, ibN, clN, hv, addL, h235, hs]
      by_cases q : nI li[j] = x
      · rw [if_pos q, if_pos q]
        exact ⟨_, rfl, rfl⟩
      · rw [if_neg q, if_neg q]
        simp only [addR]
        exact ih (j + 1) (by omega) (by omega)
    · have hlt' : ¬ nI j < nI li.length := fun q => hlt ((nI_ltI (by omega) (by omega)).mp q)
      rw [f_X3_placeOf_5_L2, f_X7_placeIn_L2, l1, if_neg hlt', if_pos h193, hx, if_neg hlt']
      exact ⟨_, rfl, rfl⟩
theorem place_sim {w m : St} {B : Nat} {ex rw li : List Nat} (h : SimB w (m.2 0) B ex rw li) (x : Int32) : ∃ r, f_X3_placeOf_5 x w = some (r, w) ∧ f_X7_placeIn x m = some (r, m) := by
  have hl := h.2.2.2.2.2.2.2.2.1.1.2.1
  exact place_loop h x BIG 0 (Nat.zero_le _) (by unfold BIG; omega)
theorem e_colourOf {p g b : Int32} {s : Nat → Int32} {w : St} (h : gCo p g b s) (hg : w.1 16 = g) (hb : w.1 17 = b) {k : Nat} (hk : k < 24) (hp : tb p k = true) : f_X4_colourOf (nI k) w = some (s (7 * k + 5), w) := by
  unfold f_X4_colourOf
  rw [e_isBlack hk, hb, h k hk hp]
  cases z : tb b k
  · simp only [Bool.false_eq_true, if_false, Option.bind_some, if_true, e_bit, hg]
    cases y : tb g k
    · rw [if_pos ((and_bI hk).mpr y)]; rfl
    · rw [if_neg (fun q => by rw [(and_bI hk).mp q] at y; cases y)]; rfl
  · simp only [if_true, Option.bind_some, oz, if_false]
theorem tellObject_sim {w m : St} {B : Nat} {ex rw li : List Nat} (h : SimB w (m.2 0) B ex rw li) (x y : Int32) : Qry w m (f_X5_tellObject x y w) (f_X7_objectOf x y m) := by
  have hP := h.2.1
  rcases hasI_iff (p := w.1 13) (x := x) with ⟨hx, k, hk, rfl, hp⟩ | ⟨hx, _⟩
  · have hk24 : isI (nI k) 24 = 1 := isI_in (by omega) hk
    have in7 : inI y 0 7 = isI y 8 := in_isI y 7 (by omega)
    obtain ⟨r, p1, p2⟩ := place_sim h (nI k)
    obtain ⟨Q, q1, q2, _⟩ := roots_both h
    have hF : ∀ f, f < 3 → m.2 0 (7 * k + (1 + f)) = w.2 1 (3 * k + f) := fun f hf => (h.2.2.1 k f hk hf).2.1 hp
    have hfo : ∀ f, f < 3 → f_X7_of (nI k) (nI (1 + f)) m = some (w.2 1 (3 * k + f), m) := fun f hf => by rw [e_of (by omega), hF f hf]
    have hW := h.2.2.2.1 k hk hp
    have hE := h.2.2.2.2.2.1 k hk hp
    have hco := e_colourOf h.2.2.2.2.1 rfl rfl hk hp
    have hQ : (if Q &&& bI (nI k) = 0 then (0 : Int32) else 1) = (Q >>> (nI k &&& 31)) &&& 1 := by
      rw [shr_v hk]
      cases z : tb Q k
      · rw [if_pos ((and_bI hk).mpr z)]; rfl
      · rw [if_neg (fun q => by rw [(and_bI hk).mp q] at z; cases z)]; rfl
    have base : ∀ A C, (f_X5_tellObject (nI k) y w = A) → (f_X7_objectOf (nI k) y m = C) → Qry w m A C → Qry w m (f_X5_tellObject (nI k) y w) (f_X7_objectOf (nI k) y m) := fun A C a c q => by rw [a, c]; exact q
    rcases rng y 8 (by omega) with ⟨j, hj, rfl⟩ | hy | ⟨hy1, hy2⟩
    · have hj8 : isI (nI j) 8 = 1 := isI_in (by omega) hj
      have hj7 : inI (nI j) 0 7 = 1 := by rw [in7, hj8]
      have cs : j = 0 ∨ j = 1 ∨ j = 2 ∨ j = 3 ∨ j = 4 ∨ j = 5 ∨ j = 6 ∨ j = 7 := by omega
      unfold f_X5_tellObject f_X7_objectOf
      simp only [e_isIn, hk24, Option.bind_some, oz, if_false, e_has, hx, e_isObject hP, e_in, hj7]
      rcases cs with rfl | rfl | rfl | rfl | rfl | rfl | rfl | rfl
      · rw [if_pos (by decide), if_pos (by decide), hco, e_of5 hk]
        exact ⟨_, rfl, rfl⟩
      · rw [if_neg (by decide), if_pos (by decide), if_neg (by decide), if_pos (by decide), show (nI 1 - 1 : Int32) = nI 0 by decide, e_fieldOf hk (by omega), show ((1 + nI 1) - 1 : Int32) = nI (1 + 0) by decide, hfo 0 (by omega)]
        exact ⟨_, rfl, rfl⟩
      · rw [if_neg (by decide), if_neg (by decide), if_pos (by decide), if_neg (by decide), if_neg (by decide), if_pos (by decide), show (nI 2 - 1 : Int32) = nI 1 by decide, e_fieldOf hk (by omega), show ((1 + nI 2) - 1 : Int32) = nI (1 + 1) by decide, hfo 1 (by omega)]
        exact ⟨_, rfl, rfl⟩
      · rw [if_neg (by decide), if_neg (by decide), if_neg (by decide), if_pos (by decide), if_neg (by decide), if_neg (by decide), if_neg (by decide), if_pos (by decide), show (nI 3 - 1 : Int32) = nI 2 by decide, e_fieldOf hk (by omega), show ((1 + nI 3) - 1 : Int32) = nI (1 + 2) by decide, hfo 2 (by omega)]
        exact ⟨_, rfl, rfl⟩
      · rw [if_neg (by decide), if_neg (by decide), if_neg (by decide), if_neg (by decide), if_pos (by decide), if_neg (by decide), if_neg (by decide), if_neg (by decide), if_neg (by decide), if_pos (by decide), e_bit, e_of4 hk, hW]
        simp only [Option.bind_some]
        cases z : tb (w.1 14) k
        · rw [if_pos ((and_bI hk).mpr z)]; exact ⟨_, rfl, rfl⟩
        · rw [if_neg (fun q => by rw [(and_bI hk).mp q] at z; cases z)]; exact ⟨_, rfl, rfl⟩
      · rw [if_neg (by decide), if_neg (by decide), if_neg (by decide), if_neg (by decide), if_neg (by decide), if_pos (by decide), if_neg (by decide), if_neg (by decide), if_neg (by decide), if_neg (by decide), if_neg (by decide), if_pos (by decide), q1, q2]
        simp only [Option.bind_some, e_bit]
        rw [← hQ]
        by_cases z : Q &&& bI (nI k) = 0
        · rw [if_pos z, if_pos z]; exact ⟨_, rfl, rfl⟩
        · rw [if_neg z, if_neg z]; exact ⟨_, rfl, rfl⟩
      · rw [if_neg (by decide), if_neg (by decide), if_neg (by decide), if_neg (by decide), if_neg (by decide), if_neg (by decide), if_pos (by decide), if_neg (by decide), if_neg (by decide), if_neg (by decide), if_neg (by decide), if_neg (by decide), if_neg (by decide), if_pos (by decide), p1, p2]
        exact ⟨_, rfl, rfl⟩
      · rw [if_neg (by decide), if_neg (by decide), if_neg (by decide), if_neg (by decide), if_neg (by decide), if_neg (by decide), if_neg (by decide), if_pos (by decide), if_pos ((ibN (by omega)).mpr hk), clN (by omega), if_neg (by decide), if_neg (by decide), if_neg (by decide), if_neg (by decide), if_neg (by decide), if_neg (by decide), if_neg (by decide), e_of6 hk, hE]
        exact ⟨_, rfl, rfl⟩
    · have hy8 : isI y 8 = 0 := isI_neg hy
      have ne : ∀ j, j < 8 → ¬ y = nI j := fun j hj q => by rw [q] at hy; exact nI_pos (by omega) hy
      refine ⟨-11, ?_, ?_⟩
      · unfold f_X5_tellObject
        simp only [e_isIn, hk24, Option.bind_some, oz, if_false, e_has, hx]
        rw [if_neg (show ¬ y = 0 from ne 0 (by omega)), if_neg (show ¬ y = 1 from ne 1 (by omega)), if_neg (show ¬ y = 2 from ne 2 (by omega)), if_neg (show ¬ y = 3 from ne 3 (by omega)), if_neg (show ¬ y = 4 from ne 4 (by omega)), if_neg (show ¬ y = 5 from ne 5 (by omega)), if_neg (show ¬ y = 6 from ne 6 (by omega)), if_neg (show ¬ y = 7 from ne 7 (by omega))]
      · unfold f_X7_objectOf
        simp only [e_isObject hP, hx, Option.bind_some, oz, if_false, e_in, in7, hy8, if_true]
    · have hy8 : isI y 8 = 0 := isI_big hy2
      have ne : ∀ j, j < 8 → ¬ y = nI j := fun j hj q => by rw [q] at hy2; exact hy2 ((nI_ltI (by omega) (by omega)).mpr hj)
      refine ⟨-11, ?_, ?_⟩
      · unfold f_X5_tellObject
        simp only [e_isIn, hk24, Option.bind_some, oz, if_false, e_has, hx]
        rw [if_neg (show ¬ y = 0 from ne 0 (by omega)), if_neg (show ¬ y = 1 from ne 1 (by omega)), if_neg (show ¬ y = 2 from ne 2 (by omega)), if_neg (show ¬ y = 3 from ne 3 (by omega)), if_neg (show ¬ y = 4 from ne 4 (by omega)), if_neg (show ¬ y = 5 from ne 5 (by omega)), if_neg (show ¬ y = 6 from ne 6 (by omega)), if_neg (show ¬ y = 7 from ne 7 (by omega))]
      · unfold f_X7_objectOf
        simp only [e_isObject hP, hx, Option.bind_some, oz, if_false, e_in, in7, hy8, if_true]
  · refine ⟨-11, ?_, ?_⟩
    · unfold f_X5_tellObject
      rcases isI_01 x 24 with q | q
      · simp only [e_isIn, q, Option.bind_some, if_true]
      · simp only [e_isIn, q, Option.bind_some, oz, if_false, e_has, hx, if_true]
    · unfold f_X7_objectOf
      simp only [e_isObject hP, hx, Option.bind_some, if_true]
theorem refers_sim {w m : St} {B : Nat} {ex rw li : List Nat} (h : SimB w (m.2 0) B ex rw li) (x y : Int32) : Qry w m (f_X1_tellReferred x y w) (f_X7_refers x y m) := by
  have in1 : inI x 0 1 = isI x 2 := in_isI x 1 (by omega)
  rcases rng x 2 (by omega) with ⟨j, hj, rfl⟩ | hx | ⟨hx1, hx2⟩
  · have hj2 : isI (nI j) 2 = 1 := isI_in (by omega) hj
    have hl : ¬ nI j < 0 := nI_pos (by omega)
    have hg : ¬ (1 : Int32) < nI j := fun q => by have := (nI_ltI (a := 1) (by omega) (by omega)).mp q; omega
    rcases isI_or y 4 (by omega) with ⟨i, hi, rfl, hin⟩ | hin
    · have hin' : isI (nI i) 4 = 1 := hin
      have hR := h.2.2.2.2.2.2.2.2.2.2.1 i hi
      have hH := h.2.2.2.2.2.2.2.2.2.2.2.1 i hi
      have h1 : 218 + i < 235 := by omega
      have h2 : 222 + i < 235 := by omega
      have cs : ∀ v, okr (w.1 13) v → (if v = -1 then some ((-14 : Int32), w) else some (v, w)) = some (if v < 0 then -14 else v, w) := by
        intro v hv
        rcases hv with rfl | ⟨k, hk, rfl, _⟩
        · rfl
        · rw [if_neg (nI_ne_m1 (by omega)), if_neg (nI_pos (by omega))]
      unfold f_X1_tellReferred f_X7_refers
      simp (disch := omega) only [e_isIn, hin', Option.bind_some, oz, if_false, hl, hg, e_in, in1, hj2, e_isRoot, addL, ibN, clN, h1, h2, if_true, hR.2, hH.2, e_rootAt hi, e_holderAt hi]
      have cj : j = 0 ∨ j = 1 := by omega
      rcases cj with rfl | rfl
      · rw [if_pos (show nI 0 = 0 from rfl), if_pos (show nI 0 = 0 from rfl), if_pos (show nI 0 = 0 from rfl), cs _ hR.1]
        refine ⟨_, rfl, ?_⟩
        split <;> rfl
      · rw [if_neg (show ¬ nI 1 = 0 by decide), if_neg (show ¬ nI 1 = 0 by decide), if_neg (show ¬ nI 1 = 0 by decide), cs _ hH.1]
        refine ⟨_, rfl, ?_⟩
        split <;> rfl
    · have hin' : isI y 4 = 0 := hin
      refine ⟨-11, ?_, ?_⟩
      · unfold f_X1_tellReferred
        simp only [e_isIn, hin', Option.bind_some, if_true, hl, hg, if_false]
        split <;> rfl
      · unfold f_X7_refers
        simp only [e_in, in1, hj2, Option.bind_some, oz, if_false, e_isRoot, hin', if_true]
  · refine ⟨-11, ?_, ?_⟩
    · unfold f_X1_tellReferred
      rw [if_pos hx]
    · unfold f_X7_refers
      simp only [e_in, in1, isI_neg hx, Option.bind_some, if_true]
  · refine ⟨-11, ?_, ?_⟩
    · unfold f_X1_tellReferred
      rw [if_neg hx1, if_pos ?_]
      rw [Int32.lt_iff_toInt_lt] at hx2 ⊢
      have e1 : (nI 2).toInt = 2 := by decide
      have e2 : (1 : Int32).toInt = 1 := by decide
      omega
    · unfold f_X7_refers
      simp only [e_in, in1, isI_big (y := 2) hx2, Option.bind_some, if_true]
