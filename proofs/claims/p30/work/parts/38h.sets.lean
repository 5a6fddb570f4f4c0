/-! PURE: grey, objects, count, late, hangs -/
theorem grey_sim {w m : St} {B : Nat} {ex rw li : List Nat} (h : SimB w (m.2 0) B ex rw li) (x : Int32) (hx : ¬ x < 0) : Qry w m ((f_X3_at_6 x w).bind fun o2 => (if o2.1 = (-1) then some ((-14), o2.2) else some (o2.1, o2.2))) (f_X7_grey x m) := by
  obtain ⟨⟨l1, l2, l3⟩, l4, l5⟩ := h.2.2.2.2.2.2.1
  have hs : m.2 0 (168 : Int32).toNatClampNeg = nI rw.length := by rw [c168]; exact l4.trans l1
  rw [e_at6 l2 l1]
  unfold f_X7_grey
  rw [if_neg hx, if_pos ib168, hs]
  rcases isI_or x rw.length (by omega) with ⟨j, hj, rfl, hin⟩ | hin
  · have hv := l3 j hj
    have h235 : 169 + j < 235 := by omega
    have hs2 : m.2 0 (169 + j) = nI rw[j] := (l5 j hj).trans hv.1
    have hlt : nI j < nI rw.length := (nI_ltI (by omega) (by omega)).mpr hj
    rw [hin, if_pos hlt, if_neg (by decide), clN (by omega), hv.1]
    simp (disch := omega) only [Option.bind_some, addL, ibN, clN, h235, if_true, hs2]
    have hk := hv.2
    rw [if_neg (nI_ne_m1 (k := rw[j]) (Nat.lt_trans hk (by decide)))]
    exact ⟨_, rfl, rfl⟩
  · have hlt : ¬ x < nI rw.length := by
      intro q
      rcases rng x rw.length (by omega) with ⟨k, hk, rfl⟩ | z | ⟨_, z⟩
      · rw [isI_inN (by omega) hk] at hin; exact absurd hin (by decide)
      · exact hx z
      · exact z q
    rw [hin, if_neg hlt, if_pos rfl]
    exact ⟨_, rfl, rfl⟩
theorem ones_loop {Wt : Type} (x : Int32) (w : Wt) : ∀ (n k : Nat), k ≤ 24 → 24 - k < n → f_X7_ones_L4 n x (nI (cnt (tb x) k)) (nI k) w = some (nI (cnt (tb x) 24), w) := by
  intro n
  induction n with
  | zero => intro k _ h; omega
  | succ n ih =>
    intro k hk hn
    by_cases h : k < 24
    · have e : cnt (tb x) (k + 1) = cnt (tb x) k + (if tb x k then 1 else 0) := rfl
      have := ih (k + 1) (by omega) (by omega)
      rw [e, ← nI_add] at this
      rw [f_X7_ones_L4]
      simp (disch := omega) only [ltL, h, if_true, shr_v h, addR]
      cases q : tb x k
      · rw [q] at this; exact this
      · rw [q] at this; exact this
    · have h3 : k = 24 := by omega
      subst h3
      rw [f_X7_ones_L4]
      simp (disch := omega) only [ltL, if_false, Nat.lt_irrefl]
theorem e_ones {Wt : Type} (x : Int32) (w : Wt) : f_X7_ones x w = some (nI (cnt (tb x) 24), w) := by
  unfold f_X7_ones
  rw [show f_X7_ones_L4 BIG x 0 0 w = _ from ones_loop x w BIG 0 (by omega) (by unfold BIG; omega)]
  rfl
theorem those_p {w m : St} {B : Nat} {ex rw li : List Nat} (h : SimB w (m.2 0) B ex rw li) : f_X7_those 0 1 m = some (w.1 13, m) := by
  refine e_those (j := 0) h.2.1 (by omega) h.1.1 (fun i hi => ?_)
  constructor
  · intro q
    refine ⟨q, ?_⟩
    rw [show 7 * i + 0 = 7 * i by omega, h.2.1 i hi, q]
    rfl
  · exact fun q => q.1
theorem those_c {w m : St} {B : Nat} {ex rw li : List Nat} (h : SimB w (m.2 0) B ex rw li) : f_X7_those 5 0 m = some (whI w.1, m) ∧ f_X7_those 5 1 m = some (w.1 16, m) ∧ f_X7_those 5 2 m = some (w.1 17, m) ∧ f_X7_those 4 1 m = some (w.1 14, m) := by
  have hA := h.1
  have hCo := h.2.2.2.2.1
  refine ⟨e_those (j := 5) h.2.1 (by omega) (S24_wh hA.1) (fun i hi => ?_), e_those (j := 5) h.2.1 (by omega) hA.2.2.1 (fun i hi => ?_), e_those (j := 5) h.2.1 (by omega) hA.2.2.2.1 (fun i hi => ?_), e_those (j := 4) h.2.1 (by omega) hA.2.1 (fun i hi => ?_)⟩
  · rw [tb_wh w.1 (by omega)]
    constructor
    · exact fun q => ⟨q.1, (col_0 hCo hi q.1).mpr q.2⟩
    · exact fun q => ⟨q.1, (col_0 hCo hi q.1).mp q.2⟩
  · constructor
    · intro q
      have hp := hA.2.2.2.2.2.1 i q
      refine ⟨hp, ?_⟩
      rw [hCo i hi hp, hA.2.2.2.2.2.2.2 i q, q]
      rfl
    · rintro ⟨hp, q⟩
      rw [hCo i hi hp] at q
      cases z : tb (w.1 17) i <;> cases z2 : tb (w.1 16) i <;> rw [z, z2] at q <;> first | rfl | exact absurd q (by decide)
  · constructor
    · intro q
      have hp := hA.2.2.2.2.2.2.1 i q
      exact ⟨hp, (col_2 hCo hi hp).mpr q⟩
    · exact fun q => (col_2 hCo hi q.1).mp q.2
  · constructor
    · intro q
      have hp := hA.2.2.2.2.1 i q
      refine ⟨hp, ?_⟩
      rw [h.2.2.2.1 i hi hp, q]
      rfl
    · rintro ⟨hp, q⟩
      rw [h.2.2.2.1 i hi hp] at q
      cases z : tb (w.1 14) i
      · rw [z] at q; exact absurd q (by decide)
      · rfl
theorem tellSet_sim {w m : St} {B : Nat} {ex rw li : List Nat} (h : SimB w (m.2 0) B ex rw li) (x : Int32) : Qry w m (f_X5_tellSet x w) (f_X7_objects x m) := by
  obtain ⟨t3, t4, t5, t6⟩ := those_c h
  obtain ⟨Q, q1, q2, _⟩ := roots_both h
  obtain ⟨R, r1, r2, _, _⟩ := reach_both h
  have h233 : m.2 0 (233 : Int32).toNatClampNeg = w.1 21 := h.2.2.2.2.2.2.2.2.2.2.2.2.1.2.2.2.2.2.2.2.1
  have ib233 : ib 233 235 := by decide
  unfold f_X5_tellSet f_X7_objects
  by_cases x0 : x = 0
  · rw [if_pos x0, if_pos x0, those_p h]; exact ⟨_, rfl, rfl⟩
  rw [if_neg x0, if_neg x0]
  by_cases x1 : x = 1
  · rw [if_pos x1, if_pos x1, q1, q2]; exact ⟨_, rfl, rfl⟩
  rw [if_neg x1, if_neg x1]
  by_cases x2 : x = 2
  · rw [if_pos x2, if_pos x2, r1, r2]; exact ⟨_, rfl, rfl⟩
  rw [if_neg x2, if_neg x2]
  by_cases x3 : x = 3
  · subst x3
    rw [if_pos rfl, if_pos rfl, e_white, show (3 - 3 : Int32) = 0 by decide, t3]; exact ⟨_, rfl, rfl⟩
  rw [if_neg x3, if_neg x3]
  by_cases x4 : x = 4
  · subst x4
    rw [if_pos rfl, if_pos rfl, show (4 - 3 : Int32) = 1 by decide, t4]; exact ⟨_, rfl, rfl⟩
  rw [if_neg x4, if_neg x4]
  by_cases x5 : x = 5
  · subst x5
    rw [if_pos rfl, if_pos rfl, show (5 - 3 : Int32) = 2 by decide, t5]; exact ⟨_, rfl, rfl⟩
  rw [if_neg x5, if_neg x5]
  by_cases x6 : x = 6
  · rw [if_pos x6, if_pos x6, t6]; exact ⟨_, rfl, rfl⟩
  rw [if_neg x6, if_neg x6]
  by_cases x7 : x = 7
  · rw [if_pos x7, if_pos x7, if_pos ib233, h233]; exact ⟨_, rfl, rfl⟩
  rw [if_neg x7, if_neg x7]
  exact ⟨_, rfl, rfl⟩
theorem e_size (w : St) (h : S24 (w.1 13)) : f_X1_size w = some (nI (cnt (tb (w.1 13)) 24), w) := by
  unfold f_X1_size
  rw [e_pop, cnt_32 h]
  rfl
theorem count_sim {w m : St} {B : Nat} {ex rw li : List Nat} (hB : B < 2147483648) (h : SimB w (m.2 0) B ex rw li) (x : Int32) (h10 : ¬ x = 10) (h11 : ¬ x = 11) (h12 : ¬ x = 12) : Qry w m (f_X5_tellNumber x w) (f_X7_count x m) := by
  obtain ⟨n1, n2, n3, n4, n5, n6, n7, n8, n9⟩ := h.2.2.2.2.2.2.2.2.2.2.2.2.1
  obtain ⟨nb, hnb, h19⟩ := h.2.2.2.2.2.2.2.2.2.2.2.2.2.2.2.2
  have hl := h.2.2.2.2.2.2.2.2.1.2.1
  have ib193 : ib 193 235 := by decide
  have ib228 : ib 228 235 := by decide
  have ib232 : ib 232 235 := by decide
  unfold f_X5_tellNumber f_X7_count
  by_cases x0 : x = 0
  · rw [if_pos x0, if_pos x0, e_size w h.1.1, those_p h]
    simp only [Option.bind_some, e_ones]
    exact ⟨_, rfl, rfl⟩
  rw [if_neg x0, if_neg x0]
  by_cases x1 : x = 1
  · rw [if_pos x1, if_pos x1, if_pos ib226]; exact ⟨_, rfl, by rw [c226, n1]⟩
  rw [if_neg x1, if_neg x1]
  by_cases x2 : x = 2
  · subst x2
    rw [if_pos rfl, if_pos rfl, if_pos (by decide)]
    exact ⟨_, rfl, by rw [show ((228 + 2 - 2 : Int32)).toNatClampNeg = 228 by decide, n3]⟩
  rw [if_neg x2, if_neg x2]
  by_cases x3 : x = 3
  · subst x3
    rw [if_pos rfl, if_pos rfl, if_pos (by decide)]
    exact ⟨_, rfl, by rw [show ((228 + 3 - 2 : Int32)).toNatClampNeg = 229 by decide, n4]⟩
  rw [if_neg x3, if_neg x3]
  by_cases x4 : x = 4
  · subst x4
    rw [if_pos rfl, if_pos rfl, if_pos (by decide)]
    exact ⟨_, rfl, by rw [show ((228 + 4 - 2 : Int32)).toNatClampNeg = 230 by decide, n5]⟩
  rw [if_neg x4, if_neg x4]
  by_cases x5 : x = 5
  · subst x5
    rw [if_pos rfl, if_pos rfl, if_pos (by decide)]
    exact ⟨_, rfl, by rw [show ((228 + 5 - 2 : Int32)).toNatClampNeg = 231 by decide, n6]⟩
  rw [if_neg x5, if_neg x5]
  by_cases x6 : x = 6
  · rw [if_pos x6, if_pos x6, if_pos ib193]
    exact ⟨_, rfl, by rw [show (193 : Int32).toNatClampNeg = 193 by decide, hl]⟩
  rw [if_neg x6, if_neg x6]
  by_cases x7 : x = 7
  · rw [if_pos x7, if_pos x7, if_pos ib226, show m.2 0 (226 : Int32).toNatClampNeg = w.1 15 from n1]
    by_cases hp : w.1 15 = 3
    · rw [if_pos hp, if_pos hp, if_pos ib227]; exact ⟨_, rfl, by rw [c227, n2]⟩
    · rw [if_neg hp, if_neg hp]; exact ⟨_, rfl, rfl⟩
  rw [if_neg x7, if_neg x7]
  by_cases x8 : x = 8
  · rw [if_pos x8, if_pos x8, if_pos ib228, show m.2 0 (228 : Int32).toNatClampNeg = w.1 19 from n3, h19]
    by_cases hz : nb = 0
    · subst hz
      rw [if_neg (show ¬ (0 : Int32) < nI 0 by decide), if_pos (show nI 0 = 0 from rfl)]; exact ⟨_, rfl, rfl⟩
    · rw [if_pos (show (0 : Int32) < nI nb from (nI_ltI (a := 0) (by omega) (by omega)).mpr (by omega)), if_neg (show ¬ nI nb = 0 from fun q => hz ((nI_eq (a := nb) (b := 0) (by omega) (by omega)).mp q)), if_pos ib232]
      exact ⟨_, rfl, by rw [show (232 : Int32).toNatClampNeg = 232 by decide, n7]⟩
  rw [if_neg x8, if_neg x8]
  by_cases x9 : x = 9
  · rw [if_pos x9, if_pos x9, if_pos ib234]; exact ⟨_, rfl, by rw [c234, n9]⟩
  rw [if_neg x9, if_neg x9, if_neg h10, if_neg h11, if_neg h12]
  exact ⟨_, rfl, rfl⟩
