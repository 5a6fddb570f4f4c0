/-! PURE: what the law reads of each object -/
theorem Q_is {t : TT} {s : Nat → Int32} {B : Nat} {co : Option (Int32 × TT)} {mo : Option (Int32 × St)} {v0 : Int32} (h : QryC t s B co mo) (hm : mo = some (v0, mkM s)) : ∃ t', co = some (v0, t') ∧ RelC t' s B := by
  obtain ⟨v, t', e1, e2, e3⟩ := h
  have e := e2.symm.trans hm
  injection e with e
  injection e with a _
  subst a
  exact ⟨t', e1, e3⟩
/-- the place of x in a list without doubles -/
def PlV (li : List Nat) (x j : Nat) (acc r : Int32) : Prop := (∃ i, ∃ h : i < li.length, j ≤ i ∧ li[i] = x ∧ r = nI i) ∨ ((∀ i (h : i < li.length), j ≤ i → li[i] ≠ x) ∧ r = acc)
theorem pl_law {m : St} {s : Nat → Int32} {li : List Nat} {n0 : Int32} {v : Nat → Int32} (hE : En m s) (hl : gL n0 v li s 193) (hnd : li.Nodup) {x : Nat} (hx : x < 24) (x9 : Int32) (T : TT) : ∀ (n j : Nat) (acc : Int32), j ≤ li.length → li.length - j < n → ∃ r, f_L_areObjects_L62 n x9 (nI x) acc (nI j) (T, m) = some (r, (T, m)) ∧ PlV li x j acc r := by
  obtain ⟨⟨l1, l2, l3⟩, l4, l5⟩ := hl
  have hg9 : m.2 0 9 = nI li.length := (En_g hE).2.2.2.2.2.2.2.2.2.1.symm.trans (l4.trans l1)
  intro n
  induction n with
  | zero => intro j acc _ h; omega
  | succ n ih =>
    intro j acc hj hn
    by_cases h : j < li.length
    · have h24 : j < 24 := by omega
      have cj : (nI j).toNatClampNeg = j := clN (by omega)
      have hv : m.2 5 j = nI li[j] := (hE.2.2.1 j h24).1.symm.trans ((l5 j h).trans (l3 j h).1)
      have hstep : ∀ acc2, (if nI li[j] = nI x then some (nI j) else some acc) = some acc2 → f_L_areObjects_L62 (n + 1) x9 (nI x) acc (nI j) (T, m) = f_L_areObjects_L62 n x9 (nI x) acc2 (nI (j + 1)) (T, m) := by
        intro acc2 e
        rw [f_L_areObjects_L62, if_pos i11_9]
        simp only [cl_9, hg9, cj, hv, addR]
        rw [if_pos ((nI_ltI (by omega) (by omega)).mpr h), if_pos (ib24 h24), e, Option.bind_some]
      by_cases he : li[j] = x
      · obtain ⟨r, e, hr⟩ := ih (j + 1) (nI j) (by omega) (by omega)
        refine ⟨r, ?_, Or.inl ⟨j, h, Nat.le_refl _, he, ?_⟩⟩
        · rw [hstep (nI j) (by rw [he, if_pos rfl])]
          exact e
        · rcases hr with ⟨i, hi, a, b, c⟩ | ⟨_, c⟩
          · have := (List.getElem_inj hnd (h₀ := h) (h₁ := hi)).mp (he.trans b.symm)
            omega
          · exact c
      · obtain ⟨r, e, hr⟩ := ih (j + 1) acc (by omega) (by omega)
        refine ⟨r, ?_, ?_⟩
        · rw [hstep acc (by rw [if_neg (fun q => he (nI_inj (by have := (l3 j h).2; omega) (by omega) q))])]
          exact e
        · rcases hr with ⟨i, hi, a, b, c⟩ | ⟨a, c⟩
          · exact Or.inl ⟨i, hi, by omega, b, c⟩
          · refine Or.inr ⟨fun i hi q => ?_, c⟩
            by_cases ei : i = j
            · subst ei; exact he
            · exact a i hi (by omega)
    · have h4 : j = li.length := by omega
      subst h4
      refine ⟨acc, ?_, Or.inr ⟨fun i hi q => by omega, rfl⟩⟩
      rw [f_L_areObjects_L62, if_pos i11_9]
      simp only [cl_9, hg9]
      rw [if_neg (fun q => by have := (nI_ltI (by omega) (by omega)).mp q; omega)]
theorem pl_model {s : Nat → Int32} {li : List Nat} {n0 : Int32} {v : Nat → Int32} (hl : gL n0 v li s 193) {x : Nat} (hx : x < 24) : ∀ (n j : Nat), j ≤ li.length → li.length - j < n → ∃ r, f_X7_placeIn_L2 n (nI x) (nI j) (mkM s) = some (r, mkM s) ∧ PlV li x j (-1) r := by
  obtain ⟨⟨l1, l2, l3⟩, l4, l5⟩ := hl
  have h193 : ib 193 235 := by decide
  have c193 : (193 : Int32).toNatClampNeg = 193 := by decide
  have hs : s 193 = nI li.length := l4.trans l1
  intro n
  induction n with
  | zero => intro j _ h; omega
  | succ n ih =>
    intro j hj hn
    by_cases h : j < li.length
    · have h235 : ib (nI (194 + j)) 235 := (ibN (by omega)).mpr (by omega)
      have c194 : (nI (194 + j)).toNatClampNeg = 194 + j := clN (by omega)
      have hv : s (194 + j) = nI li[j] := (l5 j h).trans (l3 j h).1
      by_cases he : li[j] = x
      · refine ⟨nI j, ?_, Or.inl ⟨j, h, Nat.le_refl _, he, rfl⟩⟩
        rw [f_X7_placeIn_L2, if_pos h193]
        simp only [c193, mk_0, hs, addL, c194, hv]
        rw [if_pos ((nI_ltI (by omega) (by omega)).mpr h), if_pos h235, if_pos (by rw [he])]
      · obtain ⟨r, e, hr⟩ := ih (j + 1) (by omega) (by omega)
        refine ⟨r, ?_, ?_⟩
        · rw [f_X7_placeIn_L2, if_pos h193]
          simp only [c193, mk_0, hs, addL, c194, hv, addR]
          rw [if_pos ((nI_ltI (by omega) (by omega)).mpr h), if_pos h235, if_neg (fun q => he (nI_inj (by have := (l3 j h).2; omega) (by omega) q))]
          exact e
        · rcases hr with ⟨i, hi, a, b, c⟩ | ⟨a, c⟩
          · exact Or.inl ⟨i, hi, by omega, b, c⟩
          · refine Or.inr ⟨fun i hi q => ?_, c⟩
            by_cases ei : i = j
            · subst ei; exact he
            · exact a i hi (by omega)
    · have h4 : j = li.length := by omega
      subst h4
      refine ⟨-1, ?_, Or.inr ⟨fun i hi q => by omega, rfl⟩⟩
      rw [f_X7_placeIn_L2, if_pos h193]
      simp only [c193, mk_0, hs]
      rw [if_neg (fun q => by have := (nI_ltI (by omega) (by omega)).mp q; omega)]
theorem PlV_uniq {li : List Nat} (hnd : li.Nodup) {x j : Nat} {acc r r' : Int32} (h : PlV li x j acc r) (h' : PlV li x j acc r') : r = r' := by
  rcases h with ⟨i, hi, a, b, c⟩ | ⟨a, c⟩ <;> rcases h' with ⟨i', hi', a', b', c'⟩ | ⟨a', c'⟩
  · have := (List.getElem_inj hnd (h₀ := hi) (h₁ := hi')).mp (b.trans b'.symm)
    rw [c, c', this]
  · exact absurd b (a' i hi a)
  · exact absurd b' (a i' hi' a')
  · rw [c, c']
theorem in07 : ∀ j, j < 8 → inI (nI j) 0 7 = 1 := by decide +kernel
/-- the model's answers about an object that is there -/
theorem obj_ans {p : Int32} {s : Nat → Int32} (hP : gP p s) {k : Nat} (hk : k < 24) (hp : tb p k = true) :
    f_X7_objectOf (nI k) 0 (mkM s) = some (s (7 * k + 5), mkM s) ∧ f_X7_objectOf (nI k) 1 (mkM s) = some (s (7 * k + (1 + 0)), mkM s) ∧ f_X7_objectOf (nI k) 2 (mkM s) = some (s (7 * k + (1 + 1)), mkM s) ∧ f_X7_objectOf (nI k) 3 (mkM s) = some (s (7 * k + (1 + 2)), mkM s) ∧ f_X7_objectOf (nI k) 4 (mkM s) = some (s (7 * k + 4), mkM s) ∧
    (∀ Q, f_X7_rooted (-1) (mkM s) = some (Q, mkM s) → f_X7_objectOf (nI k) 5 (mkM s) = some ((Q >>> (nI k &&& 31)) &&& 1, mkM s)) ∧ (∀ r, f_X7_placeIn (nI k) (mkM s) = some (r, mkM s) → f_X7_objectOf (nI k) 6 (mkM s) = some (r, mkM s)) ∧ f_X7_objectOf (nI k) 7 (mkM s) = some (s (7 * k + 6), mkM s) ∧ f_X7_objectOf (nI k) 8 (mkM s) = some (-11, mkM s) := by
  have hPm : gP p ((mkM s).2 0) := hP
  have hx : hasI p (nI k) = 1 := by rw [hasI_nI hk, hp]; rfl
  have d1 : ((1 : Int32) + 1) - 1 = nI (1 + 0) := by decide
  have o1 : f_X7_of (nI k) ((1 + 1) - 1) (mkM s) = some (s (7 * k + (1 + 0)), mkM s) := by rw [d1, e_of (by omega), mk_0]
  have d2 : ((1 : Int32) + 2) - 1 = nI (1 + 1) := by decide
  have o2 : f_X7_of (nI k) ((1 + 2) - 1) (mkM s) = some (s (7 * k + (1 + 1)), mkM s) := by rw [d2, e_of (by omega), mk_0]
  have d3 : ((1 : Int32) + 3) - 1 = nI (1 + 2) := by decide
  have o3 : f_X7_of (nI k) ((1 + 3) - 1) (mkM s) = some (s (7 * k + (1 + 2)), mkM s) := by rw [d3, e_of (by omega), mk_0]
  have z0 : inI (0 : Int32) 0 7 = 1 := by decide
  have z1 : inI (1 : Int32) 0 7 = 1 := by decide
  have z2 : inI (2 : Int32) 0 7 = 1 := by decide
  have z3 : inI (3 : Int32) 0 7 = 1 := by decide
  have z4 : inI (4 : Int32) 0 7 = 1 := by decide
  have z5 : inI (5 : Int32) 0 7 = 1 := by decide
  have z6 : inI (6 : Int32) 0 7 = 1 := by decide
  have z7 : inI (7 : Int32) 0 7 = 1 := by decide
  have z8 : inI (8 : Int32) 0 7 = 0 := by decide
  refine ⟨?_, ?_, ?_, ?_, ?_, fun Q hQ => ?_, fun r hr => ?_, ?_, ?_⟩ <;> unfold f_X7_objectOf
  · rw [e_isObject hPm, hx, Option.bind_some]
    dsimp only
    rw [if_neg (by decide), e_in, z0, Option.bind_some]
    dsimp only
    rw [if_neg (by decide), if_pos rfl, e_of5 hk]
    rfl
  · rw [e_isObject hPm, hx, Option.bind_some]
    dsimp only
    rw [if_neg (by decide), e_in, z1, Option.bind_some]
    dsimp only
    rw [if_neg (by decide), if_neg (by decide), if_pos rfl, o1]
    rfl
  · rw [e_isObject hPm, hx, Option.bind_some]
    dsimp only
    rw [if_neg (by decide), e_in, z2, Option.bind_some]
    dsimp only
    rw [if_neg (by decide), if_neg (by decide), if_neg (by decide), if_pos rfl, o2]
    rfl
  · rw [e_isObject hPm, hx, Option.bind_some]
    dsimp only
    rw [if_neg (by decide), e_in, z3, Option.bind_some]
    dsimp only
    rw [if_neg (by decide), if_neg (by decide), if_neg (by decide), if_neg (by decide), if_pos rfl, o3]
    rfl
  · rw [e_isObject hPm, hx, Option.bind_some]
    dsimp only
    rw [if_neg (by decide), e_in, z4, Option.bind_some]
    dsimp only
    rw [if_neg (by decide), if_neg (by decide), if_neg (by decide), if_neg (by decide), if_neg (by decide), if_pos rfl, e_of4 hk]
    rfl
  · rw [e_isObject hPm, hx, Option.bind_some]
    dsimp only
    rw [if_neg (by decide), e_in, z5, Option.bind_some]
    dsimp only
    rw [if_neg (by decide), if_neg (by decide), if_neg (by decide), if_neg (by decide), if_neg (by decide), if_neg (by decide), if_pos rfl, hQ]
    rfl
  · rw [e_isObject hPm, hx, Option.bind_some]
    dsimp only
    rw [if_neg (by decide), e_in, z6, Option.bind_some]
    dsimp only
    rw [if_neg (by decide), if_neg (by decide), if_neg (by decide), if_neg (by decide), if_neg (by decide), if_neg (by decide), if_neg (by decide), if_pos rfl, hr]
    rfl
  · rw [e_isObject hPm, hx, Option.bind_some]
    dsimp only
    rw [if_neg (by decide), e_in, z7, Option.bind_some]
    dsimp only
    rw [if_neg (by decide), if_neg (by decide), if_neg (by decide), if_neg (by decide), if_neg (by decide), if_neg (by decide), if_neg (by decide), if_neg (by decide), e_of6 hk]
    rfl
  · rw [e_isObject hPm, hx, Option.bind_some]
    dsimp only
    rw [if_neg (by decide), e_in, z8, Option.bind_some]
    dsimp only
    rw [if_pos rfl]
theorem obj_none {p : Int32} {s : Nat → Int32} (hP : gP p s) {x : Int32} (hx : hasI p x = 0) (y : Int32) : f_X7_objectOf x y (mkM s) = some (-11, mkM s) := by
  have hPm : gP p ((mkM s).2 0) := hP
  unfold f_X7_objectOf
  rw [e_isObject hPm, hx, Option.bind_some]
  dsimp only
  rw [if_pos rfl]
theorem areObj_loop {m : St} {s : Nat → Int32} {B : Nat} {w : St} {rw0 li : List Nat} (hS : SimB w s B [] rw0 li) (hE : En m s) {Q : Int32} (hQ : f_X7_rooted (-1) (mkM s) = some (Q, mkM s)) : ∀ (n k : Nat) (t : TT), k ≤ 24 → 24 - k < n → RelC t s B → ∃ t', f_L_areObjects_L15 n 1 Q (nI k) (t, m) = some (1, (t', m)) ∧ RelC t' s B := by
  have hP := hS.2.1
  have hl := hS.2.2.2.2.2.2.2.2.1
  have hnd := hS.2.2.2.2.2.2.2.2.2.1.1
  intro n
  induction n with
  | zero => intro k t _ h; omega
  | succ n ih =>
    intro k t hk hn hR
    by_cases h : k < 24
    · have ck : (nI k).toNatClampNeg = k := clN (by omega)
      have hlt : nI k < 24 := (ltL (by omega) (by omega)).mpr h
      by_cases hc : m.2 2 k < 0
      · have hp := (En_neg hE hP h).mp hc
        obtain ⟨t1, e1, r1⟩ := Q_is (C_objectOf hR (nI k) 0) (obj_none hP (by rw [hasI_nI h, hp]; rfl) 0)
        obtain ⟨t2, e2, r2⟩ := ih (k + 1) t1 (by omega) (by omega) r1
        refine ⟨t2, ?_, r2⟩
        rw [f_L_areObjects_L15, if_pos hlt, if_neg (show ¬ (1 : Int32) = 0 by decide), if_pos (ib24 h)]
        simp only [ck, addR]
        rw [if_pos hc, e1, Option.bind_some]
        dsimp only
        rw [if_pos rfl, Option.bind_some]
        exact e2
      · have hp : tb (w.1 13) k = true := by
          cases e : tb (w.1 13) k
          · exact absurd ((En_neg hE hP h).mpr e) hc
          · rfl
        obtain ⟨a0, a1, a2, a3, a4, a5, a6, a7, a8⟩ := obj_ans hP h hp
        obtain ⟨h4, h5, h6⟩ := (hE.1 k h).2 hc
        obtain ⟨al, b1, b2, b3⟩ := hE.2.1 k h
        have b3 := b3 hc
        obtain ⟨pl, ep, hpl⟩ := pl_law hE hl hnd h Q t BIG 0 (-1) (by omega) (by have := hl.1.2.1; unfold BIG; omega)
        obtain ⟨pl2, ep2, hpl2⟩ := pl_model hl h BIG 0 (by omega) (by have := hl.1.2.1; unfold BIG; omega)
        have := PlV_uniq hnd hpl hpl2
        subst this
        obtain ⟨t0, y0, r0⟩ := Q_is (C_objectOf hR (nI k) 0) a0
        obtain ⟨t1, y1, r1⟩ := Q_is (C_objectOf r0 (nI k) 1) a1
        obtain ⟨t2, y2, r2⟩ := Q_is (C_objectOf r1 (nI k) 2) a2
        obtain ⟨t3, y3, r3⟩ := Q_is (C_objectOf r2 (nI k) 3) a3
        obtain ⟨t4, y4, r4⟩ := Q_is (C_objectOf r3 (nI k) 4) a4
        obtain ⟨t5, y5, r5⟩ := Q_is (C_objectOf r4 (nI k) 5) (a5 Q hQ)
        obtain ⟨t6, y6, r6⟩ := Q_is (C_objectOf r5 (nI k) 6) (a6 pl ep2)
        obtain ⟨t7, y7, r7⟩ := Q_is (C_objectOf r6 (nI k) 7) a7
        obtain ⟨t8, y8, r8⟩ := Q_is (C_objectOf r7 (nI k) 8) a8
        obtain ⟨t9, e9, r9⟩ := ih (k + 1) t8 (by omega) (by omega) r8
        refine ⟨t9, ?_, r9⟩
        have q0 : f_L_at (3 * nI k) m = some (nI (al 0) - 1, m) := by
          rw [mulL]
          have := e_Lat (m := m) (i := 3 * k) (by omega) b1 (by rw [show 3 * k / 3 = k by omega]; exact b2)
          rw [show 3 * k % 3 = 0 by omega] at this
          exact this
        have q1 : f_L_at (3 * nI k + 1) m = some (nI (al 1) - 1, m) := by
          rw [mulL, addR]
          have := e_Lat (m := m) (i := 3 * k + 1) (by omega) b1 (by rw [show (3 * k + 1) / 3 = k by omega]; exact b2)
          rw [show (3 * k + 1) % 3 = 1 by omega] at this
          exact this
        have q2 : f_L_at (3 * nI k + 2) m = some (nI (al 2) - 1, m) := by
          rw [mulL, addR]
          have := e_Lat (m := m) (i := 3 * k + 2) (by omega) b1 (by rw [show (3 * k + 2) / 3 = k by omega]; exact b2)
          rw [show (3 * k + 2) % 3 = 2 by omega] at this
          exact this
        rw [f_L_areObjects_L15, if_pos hlt, if_neg (show ¬ (1 : Int32) = 0 by decide), if_pos (ib24 h)]
        simp only [ck]
        rw [if_neg hc, show f_L_areObjects_L62 BIG Q (nI k) (-1) 0 (t, m) = some (pl, (t, m)) from ep, Option.bind_some]
        dsimp only
        rw [y0, Option.bind_some, if_pos (ib24 h)]
        dsimp only
        rw [if_pos h5, y1, Option.bind_some, q0, Option.bind_some]
        dsimp only
        rw [if_pos (b3 0 (by omega)), y2, Option.bind_some, q1, Option.bind_some]
        dsimp only
        rw [if_pos (b3 1 (by omega)), y3, Option.bind_some, q2, Option.bind_some]
        dsimp only
        rw [if_pos (b3 2 (by omega)), y4, Option.bind_some, if_pos (ib24 h)]
        dsimp only
        rw [if_pos h4, y5, Option.bind_some]
        dsimp only
        rw [if_pos rfl, y6, Option.bind_some]
        dsimp only
        rw [if_pos rfl, y7, Option.bind_some, if_pos (ib24 h)]
        dsimp only
        rw [if_pos h6, y8, Option.bind_some]
        dsimp only
        rw [if_pos rfl, Option.bind_some, addR]
        exact e9
    · have h4 : k = 24 := by omega
      subst h4
      refine ⟨t, ?_, hR⟩
      rw [f_L_areObjects_L15, if_neg (by decide)]
theorem T_areObjects {t : TT} {m : St} {s : Nat → Int32} {B : Nat} (h : RelC t s B) (hE : En m s) : ∃ t', f_L_areObjects (t, m) = some (1, (t', m)) ∧ RelC t' s B := by
  obtain ⟨rw, li, hS⟩ := h.2.2
  obtain ⟨Q, e1, e2, _, _⟩ := T_rooted (M := mkM s) hS.1 hE
  obtain ⟨t1, e3, r1⟩ := areObj_loop hS.1 hE e2 BIG 0 t (by omega) (by unfold BIG; omega) h
  obtain ⟨t2, e4, r2⟩ := Q_is (C_objectOf r1 24 0) (obj_none hS.1.2.1 (hasI_big (by decide)) 0)
  obtain ⟨t3, e5, r3⟩ := Q_is (C_objectOf r2 (-1) 0) (obj_none hS.1.2.1 (hasI_neg (by decide)) 0)
  refine ⟨t3, ?_, r3⟩
  unfold f_L_areObjects
  rw [e1, Option.bind_some]
  dsimp only
  rw [show f_L_areObjects_L15 BIG 1 Q 0 (t, m) = some (1, (t1, m)) from e3, Option.bind_some]
  dsimp only
  rw [if_neg (show ¬ (1 : Int32) = 0 by decide), e4, Option.bind_some]
  dsimp only
  rw [if_pos rfl, e5, Option.bind_some]
  dsimp only
  rw [if_pos rfl]
