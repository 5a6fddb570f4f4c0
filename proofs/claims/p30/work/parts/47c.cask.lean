/-! PURE: ask, want, finish, in the law -/
theorem T_need {w m M : St} {B : Nat} {ex rw li : List Nat} (h : SimB w (M.2 0) B ex rw li) (hE : En m (M.2 0)) {x : Int32} (hx : okr (w.1 13) x) (T : TT) :
    ∃ s' m', ((ndI (M.2 0 226) = 0 ∧ s' = M.2 0) ∨ (¬ ndI (M.2 0 226) = 0 ∧ f_X7_shades x M = some (0, sG M 0 s'))) ∧ ((if m.2 0 0 = 1 then (f_L_shade x m).bind fun o => some ((T, o.2) : JT) else if ib 0 11 then (if m.2 0 0 = 2 then (f_L_shade x m).bind fun o => some ((T, o.2) : JT) else some ((T, m) : JT)) else none) = some (T, m')) ∧ En m' s' ∧ frS (M.2 0) s' := by
  have e226 : M.2 0 226 = m.2 0 0 := (En_g hE).1
  have n21 : ¬ (2 : Int32) = 1 := by decide
  by_cases h1 : m.2 0 0 = 1
  · obtain ⟨w', s', rw', m', _, q2, q3, _, q5, q6, _⟩ := T_shade h hE hx
    refine ⟨s', m', Or.inr ⟨?_, q2⟩, ?_, q5, q6⟩
    · rw [e226, h1]; decide
    · rw [if_pos h1, q3]; rfl
  · by_cases h2 : m.2 0 0 = 2
    · obtain ⟨w', s', rw', m', _, q2, q3, _, q5, q6, _⟩ := T_shade h hE hx
      refine ⟨s', m', Or.inr ⟨?_, q2⟩, ?_, q5, q6⟩
      · rw [e226, h2]; decide
      · rw [if_neg h1, if_pos i11_0, if_pos h2, q3]; rfl
    · refine ⟨M.2 0, m, Or.inl ⟨?_, rfl⟩, ?_, hE, frS.rf _⟩
      · rw [e226]; unfold ndI; rw [if_neg h1, if_neg h2]
      · rw [if_neg h1, if_pos i11_0, if_neg h2]
theorem lt24_okr {p v : Int32} (h : okr p v) : v < 24 := by
  rcases h with q | ⟨z, hz, q, _⟩
  · rw [q]; decide
  · rw [q]; exact (ltL (by omega) (by omega)).mpr (by omega)
theorem W_ask {t : TT} {m : St} {s : Nat → Int32} {B Y : Nat} {A b cn bd Q : Int32} (hY : Y < 10000000) (h : RelC t s B) (hE : En m s) (hbal : Bal s) : ∃ p', wb3 (nI Y) A b cn bd Q t m = some (1, p') ∧ InvJ p' (B + 1) := by
  obtain ⟨rw, li, hS⟩ := h.2.2
  have hφ := root_no (t := t) hY
  have hj : Y / 576 % 4 < 4 := Nat.mod_lt _ (by omega)
  have hη : nI Y - nI Y / 4 * 4 = nI (Y % 4) := remL (by omega) (by omega) (by omega)
  have hi : Y % 4 < 4 := Nat.mod_lt _ (by omega)
  generalize Y / 576 % 4 = j at hφ hj
  generalize Y % 4 = i at hη hi
  have hc := C_ask h (nI i) (nI j)
  have hin : isI (nI i) 4 = 1 := isI_in (by omega) hi
  have hjn : isI (nI j) 4 = 1 := isI_in (by omega) hj
  have c4 : (nI (4 + i)).toNatClampNeg = 4 + i := clN (by omega)
  have hv : m.2 7 (4 + i) = s (222 + i) := by rw [← hE.2.2.2.1 (4 + i) (by omega), show 218 + (4 + i) = 222 + i by omega]
  obtain ⟨hH, hH2⟩ := hS.1.2.2.2.2.2.2.2.2.2.2.2.1 i hi
  have h235 : 222 + i < 235 := by omega
  rcases hH with q | ⟨k, hk, q, hp⟩
  · have hs : s (222 + i) = -1 := hH2.trans q
    have hX : f_X7_ask (nI i) (nI j) (mkM s) = some (-14, mkM s) := by
      unfold f_X7_ask
      simp (disch := omega) only [e_isRoot, hin, hjn, Option.bind_some, oz, if_false, addL, ibN, clN, h235, if_true, mk_0, hs]
      rw [if_pos (by decide)]
    obtain ⟨t', y1, y2⟩ := Chg_no hc hX
    refine ⟨(t', m), ?_, s, y2, hE, hbal⟩
    unfold wb3
    simp only [hη, hφ, addL, c4, hv, hs]
    rw [if_pos (ib8 (by omega)), if_pos (by decide), y1, Option.bind_some]
    dsimp only
    rw [if_pos rfl]
  · have hs : s (222 + i) = nI k := hH2.trans q
    have hn0 : ¬ nI k < 0 := nI_pos (by omega)
    have hkr : okr ((t.1 0).1 13) (nI k) := Or.inr ⟨k, hk, rfl, hp⟩
    obtain ⟨w1, s1, rw1, m1, _, a2, a3, a4, a5, a6, a7, _, a9⟩ := T_root (M := mkM s) hS.1 hE hj hkr
    have hm2 : (sG (mkM s) 0 s1).2 0 = s1 := sG_2 _ _ _
    have hkr1 : okr (w1.1 13) (nI k) := Or.inr ⟨k, hk, rfl, by rw [a6.1 13 (by decide) (by decide)]; exact hp⟩
    obtain ⟨s2, m2, b1, b2, b3, b4⟩ := T_need (M := sG (mkM s) 0 s1) (by rw [hm2]; exact a4) (by rw [hm2]; exact a5) hkr1 t
    rw [hm2] at b1 b4
    have hb24 : (t.1 0).2 2 j < 24 := lt24_okr (hS.1.2.2.2.2.2.2.2.2.2.2.1 j hj).1
    have hX : f_X7_ask (nI i) (nI j) (mkM s) = some (nI k, sG (mkM s) 0 s2) := by
      unfold f_X7_ask
      simp (disch := omega) only [e_isRoot, hin, hjn, Option.bind_some, oz, if_false, addL, ibN, clN, h235, if_true, mk_0, hs, hn0, chg_mk, a2, e_isMarking, hm2, hb24]
      rcases b1 with ⟨q1, q2⟩ | ⟨q1, q2⟩
      · rw [if_pos q1, q2]
      · rw [if_neg q1, q2, sG_sG]
        rfl
    obtain ⟨t', y1, y2⟩ := Chg_is hc hX
    refine ⟨(t', m2), ?_, s2, y2, b3, (frB.tr a9 b4.b).bal hbal⟩
    unfold wb3
    simp only [hη, hφ, addL, c4, hv, hs]
    rw [if_pos (ib8 (by omega)), if_neg hn0, a3, Option.bind_some, if_pos i11_0]
    simp only [cl_0]
    rw [b2, Option.bind_some]
    dsimp only
    rw [y1, Option.bind_some]
    dsimp only
    rw [if_pos rfl]
theorem w608 {p wn : Int32} {m : St} {s : Nat → Int32} (hE : En m s) (hP : gP p s) (hW : gW p wn s) (hs : ∀ k, tb wn k = true → tb p k = true) (x : Int32) (T : TT) : ∀ (n k : Nat), k ≤ 24 → 24 - k < n → f_L_writes_L608 n x (nI (cnt (tb wn) k)) (nI k) (T, m) = some (nI (cnt (tb wn) 24), (T, m)) := by
  intro n
  induction n with
  | zero => intro k _ h; omega
  | succ n ih =>
    intro k hk hn
    by_cases h : k < 24
    · have ck : (nI k).toNatClampNeg = k := clN (by omega)
      have hv : (if m.2 2 k < 0 then some (0 : Int32) else if ib (nI k) 24 then some (m.2 3 k) else none) = some (nI (if tb wn k then 1 else 0)) := by
        by_cases hc : m.2 2 k < 0
        · have hp := (En_neg hE hP h).mp hc
          have hw : tb wn k = false := by
            cases z : tb wn k
            · rfl
            · have := hs k z
              rw [hp] at this
              cases this
          rw [if_pos hc, hw]; rfl
        · have hp : tb p k = true := by
            cases z : tb p k
            · exact absurd ((En_neg hE hP h).mpr z) hc
            · rfl
          rw [if_neg hc, if_pos (ib24 h), ← ((hE.1 k h).2 hc).1, hW k h hp]
          cases tb wn k <;> rfl
      rw [f_L_writes_L608]
      simp only [ck, addR]
      rw [if_pos ((ltL (by omega) (by omega)).mpr h), if_pos (ib24 h), hv, Option.bind_some, nI_add]
      have := ih (k + 1) (by omega) (by omega)
      rw [show cnt (tb wn) (k + 1) = cnt (tb wn) k + (if tb wn k then 1 else 0) from rfl] at this
      exact this
    · have h4 : k = 24 := by omega
      subst h4
      rw [f_L_writes_L608, if_neg (by decide)]
theorem W_want {t : TT} {m : St} {s : Nat → Int32} {B Y a : Nat} {b cn bd Q : Int32} (h : RelC t s B) (hE : En m s) (hbal : Bal s) (ha : a < 24) (e2 : f_X7_reached (mkM s) = some (Q, mkM s)) : ∃ p', wb4 (nI Y) (nI a) b cn bd Q t m = some (1, p') ∧ InvJ p' (B + 1) := by
  obtain ⟨rw, li, hS⟩ := h.2.2
  have hP := hS.1.2.1
  have hPm : gP ((t.1 0).1 13) ((mkM s).2 0) := hP
  have hW := hS.1.2.2.2.1
  have hc := C_want h (nI a)
  have ca : (nI a).toNatClampNeg = a := clN (by omega)
  have hx0 : hasI ((t.1 0).1 13) (nI a) = if tb ((t.1 0).1 13) a then 1 else 0 := hasI_nI ha
  have hneg := En_neg hE hP ha
  unfold wb4
  simp only [ca]
  rw [if_pos (ib24 ha)]
  by_cases hp : tb ((t.1 0).1 13) a = true
  · have hca : ¬ m.2 2 a < 0 := fun q => by rw [hneg.mp q] at hp; cases hp
    have hx : hasI ((t.1 0).1 13) (nI a) = 1 := by rw [hx0, hp]; rfl
    have h4 : s (7 * a + 4) = if tb ((t.1 0).1 14) a then 1 else 0 := hW a ha hp
    have hm3 : m.2 3 a = if tb ((t.1 0).1 14) a then 1 else 0 := ((hE.1 a ha).2 hca).1.symm.trans h4
    have h4m : (mkM s).2 0 (7 * a + 4) = if tb ((t.1 0).1 14) a then 1 else 0 := h4
    rw [if_neg hca]
    by_cases hq : tb Q a = true
    · rw [if_neg (fun q => by rw [(shr_0 ha).mp q] at hq; cases hq), if_pos (ib24 ha)]
      by_cases hw : tb ((t.1 0).1 14) a = true
      · have hX : f_X7_want (nI a) (mkM s) = some (-12, mkM s) := by
          unfold f_X7_want
          simp only [e_isObject hPm, hx, Option.bind_some, oz, if_false, e_isReached e2 ha, hq, if_true, e_of4 ha, h4m, hw]
        obtain ⟨t', y1, y2⟩ := Chg_no hc hX
        refine ⟨(t', m), ?_, s, y2, hE, hbal⟩
        rw [hm3, hw, if_pos (show (if true = true then (1 : Int32) else 0) = 1 by decide), y1, Option.bind_some, if_pos (ib24 ha), if_neg hca, Option.bind_some]
        dsimp only
        rw [if_pos rfl]
      · have hw : tb ((t.1 0).1 14) a = false := by simpa using hw
        have hS1 := want_on hS.1 ha hp
        have a1 := hS1.2.1
        have a2 := hS1.2.2.2.1
        have a3 := hS1.1.2.2.2.2.1
        have hX : f_X7_want (nI a) (mkM s) = some (nI (cnt (tb ((t.1 0).1 14 ||| bI (nI a))) 24), sG (mkM s) 0 (upd s (7 * a + 4) 1)) := by
          unfold f_X7_want
          simp only [e_isObject hPm, hx, Option.bind_some, oz, if_false, e_isReached e2 ha, hq, if_true, e_of4 ha, h4m, hw, Bool.false_eq_true]
          rw [if_neg (by decide), chg_mk]
          simp only [Option.bind_some]
          rw [show f_X7_sets (nI a) 4 1 (mkM s) = some (0, sG (mkM s) 0 (upd s (7 * a + 4) 1)) from e_sets (j := 4) (by omega) 1]
          simp only [Option.bind_some]
          rw [e_wanting (p := (t.1 0).1 13) (wn := (t.1 0).1 14 ||| bI (nI a)) (by rw [sG_2]; exact a1) (by rw [sG_2]; exact a2) a3]
          rfl
        obtain ⟨t', y1, y2⟩ := Chg_is hc hX
        have hE2 : En (sG m 3 (upd (m.2 3) a 1)) (upd s (7 * a + 4) 1) := E_w hE ha 1
        refine ⟨(t', sG m 3 (upd (m.2 3) a 1)), ?_, _, y2, hE2, frB.bal ⟨fun y hy => by rw [upd_ne (by omega)], by rw [upd_ne (by omega)], by rw [upd_ne (by omega)]⟩ hbal⟩
        have e6 := w608 hE2 a1 a2 a3 (nI a) t BIG 0 (by omega) (by unfold BIG; omega)
        rw [hm3, hw, if_neg (show ¬ (if false = true then (1 : Int32) else 0) = 1 by decide), if_pos (ib24 ha), sA_nI _ _ _ (by omega), show f_L_writes_L608 BIG (nI a) 0 0 (t, sG m 3 (upd (m.2 3) a 1)) = _ from e6, Option.bind_some]
        dsimp only
        rw [y1, Option.bind_some]
        dsimp only
        exact if_pos rfl
    · have hq : tb Q a = false := by simpa using hq
      have hX : f_X7_want (nI a) (mkM s) = some (-12, mkM s) := by
        unfold f_X7_want
        simp only [e_isObject hPm, hx, Option.bind_some, oz, if_false, e_isReached e2 ha, hq, Bool.false_eq_true, if_true]
      obtain ⟨t', y1, y2⟩ := Chg_no hc hX
      refine ⟨(t', m), ?_, s, y2, hE, hbal⟩
      rw [if_pos ((shr_0 ha).mpr hq), y1, Option.bind_some, if_pos (ib24 ha), if_neg hca, Option.bind_some]
      dsimp only
      rw [if_pos rfl]
  · have hp : tb ((t.1 0).1 13) a = false := by simpa using hp
    have hx : hasI ((t.1 0).1 13) (nI a) = 0 := by rw [hx0, hp]; rfl
    have hX : f_X7_want (nI a) (mkM s) = some (-11, mkM s) := by
      unfold f_X7_want
      simp only [e_isObject hPm, hx, Option.bind_some, if_true]
    obtain ⟨t', y1, y2⟩ := Chg_no hc hX
    refine ⟨(t', m), ?_, s, y2, hE, hbal⟩
    rw [if_pos (hneg.mpr hp), y1, Option.bind_some, if_pos (ib24 ha), if_pos (hneg.mpr hp), Option.bind_some]
    dsimp only
    rw [if_pos rfl]
theorem l715 {n : Nat} (hn : n < 24) (x7 x8 : Int32) (T : TT) : ∀ (fuel j : Nat) (m : St), m.2 0 9 = nI n → j ≤ n → n - j < fuel → ∃ r', f_L_writes_L715 fuel x7 x8 (nI j) (T, m) = some (T, sG m 5 r') ∧ ∀ i, r' i = if j ≤ i ∧ i < n then m.2 5 (i + 1) else m.2 5 i := by
  intro fuel
  induction fuel with
  | zero => intro j m _ _ h; omega
  | succ fuel ih =>
    intro j m h10 hj hf
    by_cases h : j < n
    · obtain ⟨r', e, hr⟩ := ih (j + 1) (sG m 5 (upd (m.2 5) j (m.2 5 (j + 1)))) h10 (by omega) (by omega)
      rw [sG_sG] at e
      rw [sG_2] at hr
      have c1 : (nI (j + 1)).toNatClampNeg = j + 1 := clN (by omega)
      refine ⟨r', ?_, fun i => ?_⟩
      · rw [f_L_writes_L715, if_pos i11_9]
        simp only [cl_9, h10, addR, c1]
        rw [if_pos ((nI_ltI (by omega) (by omega)).mpr h), if_pos (ib24 (by omega)), if_pos (ib24 (by omega)), sA_nI _ _ _ (by omega)]
        exact e
      · rw [hr i]
        by_cases ei : i = j
        · subst ei
          rw [if_neg (fun q => by omega), upd_eq, if_pos ⟨Nat.le_refl _, h⟩]
        · by_cases z : j + 1 ≤ i ∧ i < n
          · rw [if_pos z, upd_ne (by omega), if_pos ⟨by omega, z.2⟩]
          · rw [if_neg z, upd_ne ei, if_neg (fun q => z ⟨by omega, q.2⟩)]
    · have h4 : j = n := by omega
      subst h4
      refine ⟨m.2 5, ?_, fun i => (if_neg (fun q => by omega)).symm⟩
      rw [f_L_writes_L715, if_pos i11_9]
      simp only [cl_9, h10]
      rw [if_neg (fun q => by have := (nI_ltI (by omega) (by omega)).mp q; omega), sG_self]
theorem W_finish {t : TT} {m : St} {s : Nat → Int32} {B Y : Nat} {A b cn bd Q : Int32} (hY : Y < 10000000) (h : RelC t s B) (hE : En m s) (hbal : Bal s) : ∃ p', wb5 (nI Y) A b cn bd Q t m = some (1, p') ∧ InvJ p' (B + 1) := by
  obtain ⟨rw, li, hS⟩ := h.2.2
  have ib193 : ib 193 235 := by decide
  have ib231 : ib 231 235 := by decide
  have c193 : (193 : Int32).toNatClampNeg = 193 := by decide
  have c231 : (231 : Int32).toNatClampNeg = 231 := by decide
  have hl := hS.1.2.2.2.2.2.2.2.2.1
  have hs193 : s 193 = nI li.length := hl.2.1.trans hl.1.1
  have hg9 : m.2 0 9 = nI li.length := (En_g hE).2.2.2.2.2.2.2.2.2.1.symm.trans hs193
  have hφ := root_no (t := t) hY
  have hi : Y / 576 % 4 < 4 := Nat.mod_lt _ (by omega)
  generalize Y / 576 % 4 = i at hφ hi
  have hin : isI (nI i) 4 = 1 := isI_in (by omega) hi
  obtain ⟨z, hz, ez⟩ : ∃ z, (z = -1 ∨ z = nI i) ∧ (if (nI Y - nI Y / 3 * 3) = 0 then some ((-1) : Int32) else some ((nI Y / 576) - (nI Y / 576) / 4 * 4)) = some z := by
    by_cases q : nI Y - nI Y / 3 * 3 = 0
    · exact ⟨-1, Or.inl rfl, if_pos q⟩
    · exact ⟨nI i, Or.inr rfl, by rw [if_neg q, hφ]⟩
  have hc := C_finish h z
  have hnm : ¬ nI i = -1 := nI_ne_m1 (by omega)
  unfold wb5
  rw [ez, Option.bind_some, if_pos i11_9]
  cases li with
  | nil =>
    have h0 : (mkM s).2 0 (193 : Int32).toNatClampNeg = 0 := by rw [c193]; exact hs193
    have hX : f_X7_finish z (mkM s) = some (-12, mkM s) := by
      unfold f_X7_finish
      rcases hz with rfl | rfl
      · rw [if_pos rfl, if_pos ib193, if_pos h0]
      · rw [if_neg hnm, e_isRoot, hin]
        simp only [Option.bind_some, oz, if_false]
        rw [if_pos ib193, if_pos h0]
    obtain ⟨t', y1, y2⟩ := Chg_no hc hX
    refine ⟨(t', m), ?_, s, y2, hE, hbal⟩
    simp only [cl_9]
    rw [if_pos (show m.2 0 9 = 0 from hg9), y1, Option.bind_some]
    dsimp only
    rw [if_pos rfl]
  | cons k tl =>
    obtain ⟨hS1, l0, l1, l2, l3, hlt, hk, hpk⟩ := list_take hS.1
    have hne : ¬ nI (tl.length + 1) = 0 := fun q => by have := (nI_eq (a := tl.length + 1) (b := 0) (by omega) (by omega)).mp q; omega
    have hne2 : ¬ (mkM s).2 0 (193 : Int32).toNatClampNeg = 0 := by rw [c193, mk_0, l3]; exact hne
    have hg9' : m.2 0 9 = nI (tl.length + 1) := hg9
    have hfirst : m.2 5 0 = nI k := (hE.2.2.1 0 (by omega)).1.symm.trans l1
    have emt : f_X7_takes 193 (mkM s) = some (nI k, sG (mkM s) 0 (tkS s 193 tl.length)) := by
      have := e_takes (base := 193) (m := mkM s) (by omega) hlt l3
      rw [mk_0, show (193 + 1) = 194 by omega, l1] at this
      exact this
    obtain ⟨l', el, hl'⟩ := l715 hlt z (nI k) t BIG 0 (sG m 0 (upd (m.2 0) 9 (nI tl.length))) (by rw [sG_2, upd_eq]) (by omega) (by unfold BIG; omega)
    have hE1 : En (sG (sG m 0 (upd (m.2 0) 9 (nI tl.length))) 5 l') (tkS s 193 tl.length) := E_tkl hE hlt hl'
    have hm2 : (sG (mkM s) 0 (tkS s 193 tl.length)).2 0 = tkS s 193 tl.length := sG_2 _ _ _
    have hkr : okr ((sG (sR (t.1 0) 23 (nI tl.length)) 4 (tk ((t.1 0).2 4) tl.length)).1 13) (nI k) := Or.inr ⟨k, hk, rfl, hpk⟩
    have hfb1 : frB s (tkS s 193 tl.length) := by
      have tkf : ∀ i, (i < 193 ∨ 193 + tl.length < i) → tkS s 193 tl.length i = s i := fun i hi => by
        unfold tkS
        rw [if_neg (by omega), if_neg (by omega)]
      exact ⟨fun y hy => tkf _ (by omega), tkf _ (by omega), tkf _ (by omega)⟩
    have hfb2 : ∀ s2 : Nat → Int32, frB s2 (upd s2 231 (s2 231 + 1)) := fun s2 => ⟨fun y hy => by rw [upd_ne (by omega)], by rw [upd_ne (by omega)], by rw [upd_ne (by omega)]⟩
    rw [← hm2] at hS1 hE1
    have hfin : ∀ (s2 : Nat → Int32) (m2 : St), En m2 s2 → En (sG m2 0 (upd (m2.2 0) 5 (m2.2 0 5 + 1))) (upd s2 231 (s2 231 + 1)) := fun s2 m2 hE2 => by
      rw [(En_g hE2).2.2.2.2.2.1]
      exact E_g5 hE2 _
    have fin : ∀ s2 : Nat → Int32, sA (sG (mkM s) 0 s2) 0 231 ((sG (mkM s) 0 s2).2 0 (231 : Int32).toNatClampNeg + 1) = sG (mkM s) 0 (upd s2 231 (s2 231 + 1)) := fun s2 => by
      unfold sA
      rw [c231, sG_2, sG_sG]
    have hst : sA m 0 9 (nI (tl.length + 1) - 1) = sG m 0 (upd (m.2 0) 9 (nI tl.length)) := by
      unfold sA
      rw [cl_9, subL1]
    simp only [cl_9, cl_0, cl_5, hg9', hfirst]
    rw [if_neg hne, if_pos ib0, if_pos i11_9, if_pos i11_9, hst, show f_L_writes_L715 BIG z (nI k) 0 (t, sG m 0 (upd (m.2 0) 9 (nI tl.length))) = some (t, sG (sG m 0 (upd (m.2 0) 9 (nI tl.length))) 5 l') from el, Option.bind_some]
    rcases hz with rfl | rfl
    · obtain ⟨s2, m2, b1, b2, b3, b4⟩ := T_need hS1 hE1 hkr t
      rw [hm2] at b1 b4
      have hX : f_X7_finish (-1) (mkM s) = some (nI k, sG (mkM s) 0 (upd s2 231 (s2 231 + 1))) := by
        unfold f_X7_finish
        rw [if_pos rfl, if_pos ib193, if_neg hne2, chg_mk]
        simp only [Option.bind_some, emt]
        rw [if_pos (show (-1 : Int32) < 0 by decide), e_isMarking, hm2]
        simp only [Option.bind_some]
        rcases b1 with ⟨q1, q2⟩ | ⟨q1, q2⟩
        · rw [if_pos q1, if_pos ib231, if_pos ib231, ← q2, fin]
        · rw [sG_sG] at q2
          rw [if_neg q1, if_pos (show (-1 : Int32) < 24 by decide), q2]
          simp only [Option.bind_some]
          rw [if_pos ib231, if_pos ib231, fin]
      obtain ⟨t', y1, y2⟩ := Chg_is hc hX
      refine ⟨(t', sG m2 0 (upd (m2.2 0) 5 (m2.2 0 5 + 1))), ?_, _, y2, hfin s2 m2 b3, (frB.tr (frB.tr hfb1 b4.b) (hfb2 s2)).bal hbal⟩
      rw [if_pos (show (-1 : Int32) < 0 by decide), Option.bind_some, if_pos i11_0]
      dsimp only
      rw [b2, Option.bind_some, if_pos i11_5, if_pos i11_5]
      dsimp only
      rw [y1, Option.bind_some]
      dsimp only
      rw [if_pos rfl]
      unfold sA
      rw [cl_5]
    · have hn0 : ¬ nI i < 0 := nI_pos (by omega)
      obtain ⟨w1, s1, rw1, m1, _, a2, a3, a4, a5, a6, a7, _, a9⟩ := T_root hS1 hE1 hi hkr
      rw [sG_sG] at a2
      rw [hm2] at a9
      have hm3 : (sG (mkM s) 0 s1).2 0 = s1 := sG_2 _ _ _
      have hkr1 : okr (w1.1 13) (nI k) := Or.inr ⟨k, hk, rfl, by rw [a6.1 13 (by decide) (by decide)]; exact hpk⟩
      obtain ⟨s2, m2, b1, b2, b3, b4⟩ := T_need (M := sG (mkM s) 0 s1) (by rw [hm3]; exact a4) (by rw [hm3]; exact a5) hkr1 t
      rw [hm3] at b1 b4
      have hb24 : (sG (sR (t.1 0) 23 (nI tl.length)) 4 (tk ((t.1 0).2 4) tl.length)).2 2 i < 24 := lt24_okr (hS.1.2.2.2.2.2.2.2.2.2.2.1 i hi).1
      have hX : f_X7_finish (nI i) (mkM s) = some (nI k, sG (mkM s) 0 (upd s2 231 (s2 231 + 1))) := by
        unfold f_X7_finish
        rw [if_neg hnm, e_isRoot, hin]
        simp only [Option.bind_some, oz, if_false]
        rw [if_pos ib193, if_neg hne2, chg_mk]
        simp only [Option.bind_some, emt]
        rw [if_neg hn0, a2]
        simp only [Option.bind_some]
        rw [e_isMarking, hm3]
        simp only [Option.bind_some]
        rcases b1 with ⟨q1, q2⟩ | ⟨q1, q2⟩
        · rw [if_pos q1, if_pos ib231, if_pos ib231, ← q2, fin]
        · rw [sG_sG] at q2
          rw [if_neg q1, if_pos hb24, q2]
          simp only [Option.bind_some]
          rw [if_pos ib231, if_pos ib231, fin]
      obtain ⟨t', y1, y2⟩ := Chg_is hc hX
      refine ⟨(t', sG m2 0 (upd (m2.2 0) 5 (m2.2 0 5 + 1))), ?_, _, y2, hfin s2 m2 b3, (frB.tr (frB.tr (frB.tr hfb1 a9) b4.b) (hfb2 s2)).bal hbal⟩
      rw [if_neg hn0, a3, Option.bind_some, Option.bind_some, if_pos i11_0]
      dsimp only
      rw [b2, Option.bind_some, if_pos i11_5, if_pos i11_5]
      dsimp only
      rw [y1, Option.bind_some]
      dsimp only
      rw [if_pos rfl]
      unfold sA
      rw [cl_5]
