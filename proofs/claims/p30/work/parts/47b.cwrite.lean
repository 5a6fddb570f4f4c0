/-! PURE: field, root, weak, in the law -/
theorem E_f {g f c w n l r t s : Nat → Int32} (h : EnR g f c w n l r t s) {k j b : Nat} (hk : k < 24) (hj : j < 3) {a : Nat → Nat} (ha : pkv a) (hf : f k = pk a) (hs : ¬ c k < 0 → ∀ i, i < 3 → s (7 * k + (1 + i)) = nI (a i) - 1) (hb : b ≤ 24) : EnR g (upd f k (pk (updN a j b))) c w n l r t (upd s (7 * k + (1 + j)) (nI b - 1)) := by
  obtain ⟨h1, h2, h3, h4, h5⟩ := h
  refine ⟨eC_s (fun k1 hk1 => ⟨?_, ?_, ?_, ?_⟩) h1, fun y hy => ?_, eR_s (fun j1 hj1 => ⟨?_, ?_⟩) h3, eT_s (fun j1 hj1 => ?_) h4, eG_s (fun i1 hi1 => ?_) ?_ ?_ h5⟩
  · rw [upd_ne (by omega)]
  · rw [upd_ne (by omega)]
  · rw [upd_ne (by omega)]
  · rw [upd_ne (by omega)]
  · by_cases e : y = k
    · subst e
      refine ⟨updN a j b, updN_v ha hb, upd_eq _ _ _, fun q i hi => ?_⟩
      unfold updN
      by_cases ei : i = j
      · subst ei
        rw [upd_eq, if_pos rfl]
      · rw [upd_ne (by omega), if_neg ei]
        exact hs q i hi
    · obtain ⟨a2, b1, b2, b3⟩ := h2 y hy
      exact ⟨a2, b1, by rw [upd_ne e]; exact b2, fun q i hi => by rw [upd_ne (by omega)]; exact b3 q i hi⟩
  · rw [upd_ne (by omega)]
  · rw [upd_ne (by omega)]
  · rw [upd_ne (by omega)]
  · rw [upd_ne (by omega)]
  · rw [upd_ne (by omega)]
  · rw [upd_ne (by omega)]
theorem okb_n {b : Int32} (h : okb b) : ∃ β, β ≤ 24 ∧ b = nI β - 1 := by
  rcases h with rfl | ⟨j, hj, rfl⟩
  · exact ⟨0, by omega, by decide⟩
  · exact ⟨j + 1, by omega, by rw [subL1]⟩
theorem bad_pres {p : Int32} {m : St} {s : Nat → Int32} (hE : En m s) (hP : gP p s) {j : Nat} (hj : j < 24) (hp : tb p j = true) : badV m (nI j) = -12 := by
  rw [bad_nI m hj, if_neg (fun q => by rw [(En_neg hE hP hj).mp q] at hp; cases hp)]
theorem bad_abs {p : Int32} {m : St} {s : Nat → Int32} (hE : En m s) (hP : gP p s) {j : Nat} (hj : j < 24) (hp : tb p j = false) : badV m (nI j) = -11 := by
  rw [bad_nI m hj, if_pos ((En_neg hE hP hj).mpr hp)]
theorem W_field {t : TT} {m : St} {s : Nat → Int32} {B Y a : Nat} {b Q : Int32} (hY : Y < 10000000) (h : RelC t s B) (hE : En m s) (hbal : Bal s) (ha : a < 24) (hb : okb b) (e2 : f_X7_reached (mkM s) = some (Q, mkM s)) (hQ : ∀ j, j < 24 → tb Q j = true → s (7 * j) = 1) : ∃ p', wb0 (nI Y) (nI a) b (canV Q b) (badV m b) Q t m = some (1, p') ∧ InvJ p' (B + 1) := by
  obtain ⟨rw, li, hS⟩ := h.2.2
  have hP := hS.1.2.1
  have hPm : gP ((t.1 0).1 13) ((mkM s).2 0) := hP
  have hφ : (nI Y / 576) - (nI Y / 576) / 3 * 3 = nI (Y / 576 % 3) := by rw [divL (by omega) (by omega) (by omega), remL (by omega) (by omega) (by omega)]
  have hf : Y / 576 % 3 < 3 := Nat.mod_lt _ (by omega)
  generalize Y / 576 % 3 = f at hφ hf
  have hc := C_field h (nI a) (nI f) b
  have in3 : isI (nI f) 3 = 1 := isI_in (by omega) hf
  have in2 : inI (nI f) 0 2 = 1 := (in_isI (nI f) 2 (by omega)).trans in3
  have ca : (nI a).toNatClampNeg = a := clN (by omega)
  have hneg := En_neg hE hP ha
  have hx0 : hasI ((t.1 0).1 13) (nI a) = if tb ((t.1 0).1 13) a then 1 else 0 := hasI_nI ha
  have err : ∀ v : Int32, f_X7_field (nI a) (nI f) b (mkM s) = some (v, mkM s) → ∃ t', f_X6_field (nI a) (nI f) b t = some (v, t') ∧ RelC t' s (B + 1) := fun v hv => Chg_no hc hv
  unfold wb0
  simp only [hφ, ca]
  rw [if_pos (ib24 ha)]
  by_cases hp : tb ((t.1 0).1 13) a = true
  · have hca : ¬ m.2 2 a < 0 := fun q => by rw [hneg.mp q] at hp; cases hp
    rw [if_neg hca]
    have hx : hasI ((t.1 0).1 13) (nI a) = 1 := by rw [hx0, hp]; rfl
    have bcase : (b = -1) ∨ (∃ j, j < 24 ∧ b = nI j ∧ tb ((t.1 0).1 13) j = true) ∨ (∃ j, j < 24 ∧ b = nI j ∧ tb ((t.1 0).1 13) j = false) := by
      rcases hb with q | ⟨j, hj, q⟩
      · exact Or.inl q
      · cases z : tb ((t.1 0).1 13) j
        · exact Or.inr (Or.inr ⟨j, hj, q, z⟩)
        · exact Or.inr (Or.inl ⟨j, hj, q, z⟩)
    have absQ : ∀ j, j < 24 → tb ((t.1 0).1 13) j = false → tb Q j = false := by
      intro j hj z
      cases q : tb Q j
      · rfl
      · have := hQ j hj q
        rw [hP j hj, z] at this
        exact absurd this (by decide)
    by_cases hq : tb Q a = true
    · rw [if_neg (fun q => by rw [(shr_0 ha).mp q] at hq; cases hq)]
      have done : okr ((t.1 0).1 13) b → f_X7_field (nI a) (nI f) b (mkM s) = ((f_X7_of (nI a) (1 + nI f) (mkM s)).bind fun o14 => (f_X7_sets (nI a) (1 + nI f) b o14.2).bind fun o16 => (f_X7_of (nI a) 5 o16.2).bind fun o18 => (if o18.1 = 2 then (f_X7_cares o14.1 b 1 o18.2).bind fun o21 => some (o14.1, o21.2) else (f_X7_cares o14.1 b 0 o18.2).bind fun o23 => some (o14.1, o23.2))) → ∃ p', ((f_L_at ((3 * nI a) + nI f) m).bind fun o66 => (f_L_put ((3 * nI a) + nI f) b o66.2).bind fun o68 => if ib (nI a) 24 then (if (o68.2.2 2 a) = 2 then some ((1 : Int32)) else some ((0 : Int32))).bind fun o72 => (f_L_care o66.1 b o72 o68.2).bind fun o75 => (f_X6_field (nI a) (nI f) b t).bind fun o77 => (if o77.1 = o66.1 then some ((1 : Int32), (o77.2, o75.2)) else some ((0 : Int32), (o77.2, o75.2))) else none) = some (1, p') ∧ InvJ p' (B + 1) := by
        intro hbr hX
        obtain ⟨al, h1, h2, h3⟩ := hE.2.1 a ha
        have h3 := h3 hca
        obtain ⟨β, hβ, eβ⟩ := okb_n hb
        have hi : 3 * a + f < 72 := by omega
        have hd : (3 * a + f) / 3 = a := by omega
        have hr : (3 * a + f) % 3 = f := by omega
        have eix : (3 : Int32) * nI a + nI f = nI (3 * a + f) := by rw [mulL, nI_add]
        have eat := e_Lat (m := m) hi h1 (by rw [hd]; exact h2)
        have eput := e_Lput (m := m) hi h1 (by rw [hd]; exact h2) hβ
        rw [hr] at eat eput
        rw [hd, ← eβ] at eput
        have hEf : En (sG m 1 (upd (m.2 1) a (pk (updN al f β)))) (upd s (7 * a + (1 + f)) b) := by
          have := E_f hE ha hf h1 h2 (fun _ => h3) hβ
          rw [← eβ] at this
          exact this
        have hF := hS.1.2.2.1 a f ha hf
        have hwas : nI (al f) - 1 = (t.1 0).2 1 (3 * a + f) := (h3 f hf).symm.trans (hF.2.1 hp)
        have hS2 := field_set hS.1 ha hf hp hbr
        have hm2 : (sG (mkM s) 0 (upd s (7 * a + (1 + f)) b)).2 0 = upd s (7 * a + (1 + f)) b := sG_2 _ _ _
        rw [← hm2] at hS2 hEf
        obtain ⟨s2, m2, q1, q2, q3, q4⟩ := T_care (bl := if tb ((t.1 0).1 17) a then 1 else 0) hS2 hEf (before := (t.1 0).2 1 (3 * a + f)) hF.1 hbr
        rw [sG_sG] at q1
        rw [hm2] at q4
        have hbal2 : Bal s2 := (frB.tr ⟨fun y hy => by rw [upd_ne (by omega)], by rw [upd_ne (by omega)], by rw [upd_ne (by omega)]⟩ q4.b).bal hbal
        have hx := field_model (m := mkM s) (v := (t.1 0).2 1) ha hf hS.1.2.2.2.2.1 hp (hF.2.1 hp) q1
        obtain ⟨t', y1, y2⟩ := Chg_is hc (hX.trans hx)
        have hbl : (if (sG m 1 (upd (m.2 1) a (pk (updN al f β)))).2 2 a = 2 then some ((1 : Int32)) else some ((0 : Int32))) = some (if tb ((t.1 0).1 17) a then 1 else 0) := by
          have h5 : m.2 2 a = s (7 * a + 5) := ((hE.1 a ha).2 hca).2.1.symm
          show (if m.2 2 a = 2 then _ else _) = _
          rw [h5]
          cases z : tb ((t.1 0).1 17) a
          · rw [if_neg (fun q => by rw [(col_2 hS.1.2.2.2.2.1 ha hp).mp q] at z; cases z)]; rfl
          · rw [if_pos ((col_2 hS.1.2.2.2.2.1 ha hp).mpr z)]; rfl
        refine ⟨(t', m2), ?_, s2, y2, q3, hbal2⟩
        rw [eix, eat, Option.bind_some]
        dsimp only
        rw [eput, Option.bind_some, if_pos (ib24 ha)]
        dsimp only
        rw [hbl, Option.bind_some, hwas, q2, Option.bind_some, y1, Option.bind_some]
        dsimp only
        rw [if_pos rfl]
      rcases bcase with rfl | ⟨j, hj, rfl, hpj⟩ | ⟨j, hj, rfl, hpj⟩
      · rw [can_m1, if_neg (show ¬ (1 : Int32) = 0 by decide)]
        refine done (Or.inl rfl) ?_
        unfold f_X7_field
        simp only [e_isObject hPm, hx, Option.bind_some, oz, if_false, e_in, in2, if_true, e_isReached e2 ha, hq, chg_mk]
        rw [if_pos (show (-1 : Int32) < 0 by decide)]
      · have z1 : ¬ nI j = -1 := nI_ne_m1 (by omega)
        have hn0 : ¬ nI j < 0 := nI_pos (by omega)
        have z2 : hasI ((t.1 0).1 13) (nI j) = 1 := by rw [hasI_nI hj, hpj]; rfl
        rw [can_nI Q hj]
        by_cases hqj : tb Q j = true
        · rw [hqj, if_neg (show ¬ (if true = true then (1 : Int32) else 0) = 0 by decide)]
          refine done (Or.inr ⟨j, hj, rfl, hpj⟩) ?_
          unfold f_X7_field
          simp only [e_isObject hPm, hx, Option.bind_some, oz, if_false, e_in, in2, z1, z2, if_true, e_isReached e2 ha, hq, hn0, e_isReached e2 hj, hqj, chg_mk]
        · have hqj : tb Q j = false := by simpa using hqj
          obtain ⟨t', y1, y2⟩ := err (-12) (by
            unfold f_X7_field
            simp only [e_isObject hPm, hx, Option.bind_some, oz, if_false, e_in, in2, z1, z2, if_true, e_isReached e2 ha, hq, hn0, e_isReached e2 hj, hqj, Bool.false_eq_true])
          refine ⟨(t', m), ?_, s, y2, hE, hbal⟩
          rw [hqj, if_pos (show (if false = true then (1 : Int32) else 0) = 0 by decide), y1, Option.bind_some, if_pos (ib24 ha), if_neg hca, bad_pres hE hP hj hpj, if_neg (show ¬ (-12 : Int32) = -11 by decide), Option.bind_some]
          dsimp only
          rw [if_pos rfl]
      · have z1 : ¬ nI j = -1 := nI_ne_m1 (by omega)
        have z2 : hasI ((t.1 0).1 13) (nI j) = 0 := by rw [hasI_nI hj, hpj]; rfl
        have hqj := absQ j hj hpj
        obtain ⟨t', y1, y2⟩ := err (-11) (by
          unfold f_X7_field
          simp only [e_isObject hPm, hx, Option.bind_some, oz, if_false, e_in, in2, z1, z2, if_true])
        refine ⟨(t', m), ?_, s, y2, hE, hbal⟩
        rw [can_nI Q hj, hqj, if_pos (show (if false = true then (1 : Int32) else 0) = 0 by decide), y1, Option.bind_some, if_pos (ib24 ha), if_neg hca, bad_abs hE hP hj hpj, if_pos rfl, if_pos (show (if false = true then (1 : Int32) else 0) = 0 by decide), Option.bind_some]
        dsimp only
        rw [if_pos rfl]
    · have hq : tb Q a = false := by simpa using hq
      rw [if_pos ((shr_0 ha).mpr hq)]
      rcases bcase with rfl | ⟨j, hj, rfl, hpj⟩ | ⟨j, hj, rfl, hpj⟩
      · obtain ⟨t', y1, y2⟩ := err (-12) (by
          unfold f_X7_field
          simp only [e_isObject hPm, hx, Option.bind_some, oz, if_false, e_in, in2, if_true, e_isReached e2 ha, hq, Bool.false_eq_true])
        refine ⟨(t', m), ?_, s, y2, hE, hbal⟩
        rw [y1, Option.bind_some, if_pos (ib24 ha), if_neg hca, bad_m1, if_neg (show ¬ (-12 : Int32) = -11 by decide), Option.bind_some]
        dsimp only
        rw [if_pos rfl]
      · have z1 : ¬ nI j = -1 := nI_ne_m1 (by omega)
        have z2 : hasI ((t.1 0).1 13) (nI j) = 1 := by rw [hasI_nI hj, hpj]; rfl
        obtain ⟨t', y1, y2⟩ := err (-12) (by
          unfold f_X7_field
          simp only [e_isObject hPm, hx, Option.bind_some, oz, if_false, e_in, in2, z1, z2, if_true, e_isReached e2 ha, hq, Bool.false_eq_true])
        refine ⟨(t', m), ?_, s, y2, hE, hbal⟩
        rw [y1, Option.bind_some, if_pos (ib24 ha), if_neg hca, bad_pres hE hP hj hpj, if_neg (show ¬ (-12 : Int32) = -11 by decide), Option.bind_some]
        dsimp only
        rw [if_pos rfl]
      · have z1 : ¬ nI j = -1 := nI_ne_m1 (by omega)
        have z2 : hasI ((t.1 0).1 13) (nI j) = 0 := by rw [hasI_nI hj, hpj]; rfl
        have hqj := absQ j hj hpj
        obtain ⟨t', y1, y2⟩ := err (-11) (by
          unfold f_X7_field
          simp only [e_isObject hPm, hx, Option.bind_some, oz, if_false, e_in, in2, z1, z2, if_true])
        refine ⟨(t', m), ?_, s, y2, hE, hbal⟩
        rw [y1, Option.bind_some, if_pos (ib24 ha), if_neg hca, bad_abs hE hP hj hpj, if_pos rfl, can_nI Q hj, hqj, if_pos (show (if false = true then (1 : Int32) else 0) = 0 by decide), Option.bind_some]
        dsimp only
        rw [if_pos rfl]
  · have hp : tb ((t.1 0).1 13) a = false := by simpa using hp
    have hx : hasI ((t.1 0).1 13) (nI a) = 0 := by rw [hx0, hp]; rfl
    obtain ⟨t', y1, y2⟩ := err (-11) (by
      unfold f_X7_field
      simp only [e_isObject hPm, hx, Option.bind_some, if_true])
    refine ⟨(t', m), ?_, s, y2, hE, hbal⟩
    rw [if_pos (hneg.mpr hp), y1, Option.bind_some, if_pos (ib24 ha), if_pos (hneg.mpr hp), Option.bind_some]
    dsimp only
    rw [if_pos rfl]
theorem root_no {t : TT} {Y : Nat} (hY : Y < 10000000) : (nI Y / 576) - (nI Y / 576) / 4 * 4 = nI (Y / 576 % 4) := by rw [divL (by omega) (by omega) (by omega), remL (by omega) (by omega) (by omega)]
/-- none, reached, or neither: what the model says of b -/
theorem b_or {w : St} {m : St} {s : Nat → Int32} {b Q : Int32} (hE : En m s) (hP : gP (w.1 13) s) (hb : okb b) (hQ : ∀ j, j < 24 → tb Q j = true → s (7 * j) = 1) :
    (b = -1) ∨ (∃ j, j < 24 ∧ b = nI j ∧ tb (w.1 13) j = true ∧ tb Q j = true) ∨ (∃ j, j < 24 ∧ b = nI j ∧ tb (w.1 13) j = true ∧ tb Q j = false ∧ badV m b = -12 ∧ canV Q b = 0) ∨ (∃ j, j < 24 ∧ b = nI j ∧ tb (w.1 13) j = false ∧ badV m b = -11 ∧ canV Q b = 0) := by
  rcases hb with q | ⟨j, hj, rfl⟩
  · exact Or.inl q
  · cases z : tb (w.1 13) j
    · refine Or.inr (Or.inr (Or.inr ⟨j, hj, rfl, z, ?_, ?_⟩))
      · rw [bad_nI m hj, if_pos ((En_neg hE hP hj).mpr z)]
      · rw [can_nI Q hj]
        cases q : tb Q j
        · rfl
        · have := hQ j hj q
          rw [hP j hj, z] at this
          exact absurd this (by decide)
    · cases q : tb Q j
      · refine Or.inr (Or.inr (Or.inl ⟨j, hj, rfl, z, q, ?_, ?_⟩))
        · rw [bad_nI m hj, if_neg (fun y => by rw [(En_neg hE hP hj).mp y] at z; cases z)]
        · rw [can_nI Q hj, q]; rfl
      · exact Or.inr (Or.inl ⟨j, hj, rfl, z, q⟩)
theorem W_root {t : TT} {m : St} {s : Nat → Int32} {B Y : Nat} {A b Q : Int32} (hY : Y < 10000000) (h : RelC t s B) (hE : En m s) (hbal : Bal s) (hb : okb b) (e2 : f_X7_reached (mkM s) = some (Q, mkM s)) (hQ : ∀ j, j < 24 → tb Q j = true → s (7 * j) = 1) : ∃ p', wb1 (nI Y) A b (canV Q b) (badV m b) Q t m = some (1, p') ∧ InvJ p' (B + 1) := by
  obtain ⟨rw, li, hS⟩ := h.2.2
  have hP := hS.1.2.1
  have hPm : gP ((t.1 0).1 13) ((mkM s).2 0) := hP
  have hφ := root_no (t := t) hY
  have hi : Y / 576 % 4 < 4 := Nat.mod_lt _ (by omega)
  generalize Y / 576 % 4 = i at hφ hi
  have hc := C_root h (nI i) b
  have hin : isI (nI i) 4 = 1 := isI_in (by omega) hi
  have ok : okr ((t.1 0).1 13) b → canV Q b = 1 → (∀ s', f_X7_writesRoot (nI i) b (mkM s) = some ((t.1 0).2 2 i, sG (mkM s) 0 s') → f_X7_root (nI i) b (mkM s) = some ((t.1 0).2 2 i, sG (mkM s) 0 s')) → ∃ p', wb1 (nI Y) A b (canV Q b) (badV m b) Q t m = some (1, p') ∧ InvJ p' (B + 1) := by
    intro hbr hcan hX
    obtain ⟨w', s', rw', m', _, a2, a3, _, a5, _, _, _, a9⟩ := T_root (M := mkM s) hS.1 hE hi hbr
    obtain ⟨t', y1, y2⟩ := Chg_is hc (hX s' a2)
    refine ⟨(t', m'), ?_, s', y2, a5, a9.bal hbal⟩
    unfold wb1
    simp only [hφ]
    rw [y1, Option.bind_some, hcan, if_neg (show ¬ (1 : Int32) = 0 by decide), a3, Option.bind_some, Option.bind_some]
    dsimp only
    rw [if_pos rfl]
  have no : ∀ v, badV m b = v → canV Q b = 0 → f_X7_root (nI i) b (mkM s) = some (v, mkM s) → ∃ p', wb1 (nI Y) A b (canV Q b) (badV m b) Q t m = some (1, p') ∧ InvJ p' (B + 1) := by
    intro v hv hcan hX
    obtain ⟨t', y1, y2⟩ := Chg_no hc hX
    refine ⟨(t', m), ?_, s, y2, hE, hbal⟩
    unfold wb1
    simp only [hφ]
    rw [y1, Option.bind_some, hcan, if_pos rfl, Option.bind_some]
    dsimp only
    rw [if_pos hv.symm]
  rcases b_or hE hP hb hQ with rfl | ⟨j, hj, rfl, hpj, hqj⟩ | ⟨j, hj, rfl, hpj, hqj, hbad, hcan⟩ | ⟨j, hj, rfl, hpj, hbad, hcan⟩
  · refine ok (Or.inl rfl) (can_m1 Q) (fun s' a2 => ?_)
    unfold f_X7_root
    simp only [e_isRoot, hin, Option.bind_some, oz, if_false, if_true, chg_mk, a2]
    rw [if_pos (by decide)]
  · have z1 : ¬ nI j = -1 := nI_ne_m1 (by omega)
    have hn0 : ¬ nI j < 0 := nI_pos (by omega)
    have z2 : hasI ((t.1 0).1 13) (nI j) = 1 := by rw [hasI_nI hj, hpj]; rfl
    refine ok (Or.inr ⟨j, hj, rfl, hpj⟩) (by rw [can_nI Q hj, hqj]; rfl) (fun s' a2 => ?_)
    unfold f_X7_root
    simp only [e_isRoot, hin, Option.bind_some, oz, if_false, z1, e_isObject hPm, z2, hn0, e_isReached e2 hj, hqj, if_true, chg_mk, a2]
  · have z1 : ¬ nI j = -1 := nI_ne_m1 (by omega)
    have hn0 : ¬ nI j < 0 := nI_pos (by omega)
    have z2 : hasI ((t.1 0).1 13) (nI j) = 1 := by rw [hasI_nI hj, hpj]; rfl
    refine no _ hbad hcan ?_
    unfold f_X7_root
    simp only [e_isRoot, hin, Option.bind_some, oz, if_false, z1, e_isObject hPm, z2, hn0, e_isReached e2 hj, hqj, Bool.false_eq_true, if_true]
  · have z1 : ¬ nI j = -1 := nI_ne_m1 (by omega)
    have z2 : hasI ((t.1 0).1 13) (nI j) = 0 := by rw [hasI_nI hj, hpj]; rfl
    refine no _ hbad hcan ?_
    unfold f_X7_root
    simp only [e_isRoot, hin, Option.bind_some, oz, if_false, z1, e_isObject hPm, z2, if_true]
theorem W_weak {t : TT} {m : St} {s : Nat → Int32} {B Y : Nat} {A b Q : Int32} (hY : Y < 10000000) (h : RelC t s B) (hE : En m s) (hbal : Bal s) (hb : okb b) (e2 : f_X7_reached (mkM s) = some (Q, mkM s)) (hQ : ∀ j, j < 24 → tb Q j = true → s (7 * j) = 1) : ∃ p', wb2 (nI Y) A b (canV Q b) (badV m b) Q t m = some (1, p') ∧ InvJ p' (B + 1) := by
  obtain ⟨rw, li, hS⟩ := h.2.2
  have hP := hS.1.2.1
  have hPm : gP ((t.1 0).1 13) ((mkM s).2 0) := hP
  have hφ := root_no (t := t) hY
  have hi : Y / 576 % 4 < 4 := Nat.mod_lt _ (by omega)
  generalize Y / 576 % 4 = i at hφ hi
  have hc := C_weak h (nI i) b
  have hin : isI (nI i) 4 = 1 := isI_in (by omega) hi
  have c4 : (nI (4 + i)).toNatClampNeg = 4 + i := clN (by omega)
  have hv : m.2 7 (4 + i) = s (222 + i) := by rw [← hE.2.2.2.1 (4 + i) (by omega), show 218 + (4 + i) = 222 + i by omega]
  have h235 : 222 + i < 235 := by omega
  have ok : canV Q b = 1 → f_X7_weak (nI i) b (mkM s) = some (s (222 + i), sG (mkM s) 0 (upd s (222 + i) b)) → ∃ p', wb2 (nI Y) A b (canV Q b) (badV m b) Q t m = some (1, p') ∧ InvJ p' (B + 1) := by
    intro hcan hX
    obtain ⟨t', y1, y2⟩ := Chg_is hc hX
    have hE2 : En (sG m 7 (upd (m.2 7) (4 + i) b)) (upd s (222 + i) b) := by
      have := E_t hE (j := 4 + i) (by omega) b
      rw [show 218 + (4 + i) = 222 + i by omega] at this
      exact this
    refine ⟨(t', sG m 7 (upd (m.2 7) (4 + i) b)), ?_, _, y2, hE2, frB.bal ⟨fun y hy => by rw [upd_ne (by omega)], by rw [upd_ne (by omega)], by rw [upd_ne (by omega)]⟩ hbal⟩
    unfold wb2
    simp only [hφ, addL, c4, hv]
    rw [if_pos (ib8 (by omega)), hcan, if_neg (show ¬ (1 : Int32) = 0 by decide), Option.bind_some, if_pos (ib8 (by omega)), y1, Option.bind_some, if_neg (show ¬ (1 : Int32) = 0 by decide), Option.bind_some]
    dsimp only
    rw [if_pos rfl, sA_nI _ _ _ (by omega)]
  have no : ∀ v, badV m b = v → canV Q b = 0 → f_X7_weak (nI i) b (mkM s) = some (v, mkM s) → ∃ p', wb2 (nI Y) A b (canV Q b) (badV m b) Q t m = some (1, p') ∧ InvJ p' (B + 1) := by
    intro v hv2 hcan hX
    obtain ⟨t', y1, y2⟩ := Chg_no hc hX
    refine ⟨(t', m), ?_, s, y2, hE, hbal⟩
    unfold wb2
    simp only [hφ, addL, c4]
    rw [if_pos (ib8 (by omega)), hcan, if_pos rfl, Option.bind_some, if_pos (ib8 (by omega)), y1, Option.bind_some, if_pos rfl, Option.bind_some]
    dsimp only
    rw [if_pos hv2.symm, sA_nI _ _ _ (by omega), upd_self, sG_self]
  rcases b_or hE hP hb hQ with rfl | ⟨j, hj, rfl, hpj, hqj⟩ | ⟨j, hj, rfl, hpj, hqj, hbad, hcan⟩ | ⟨j, hj, rfl, hpj, hbad, hcan⟩
  · refine ok (can_m1 Q) ?_
    unfold f_X7_weak
    simp only [e_isRoot, hin, Option.bind_some, oz, if_false, if_true, chg_mk]
    rw [if_pos (by decide)]
    simp (disch := omega) only [addL, ibN, clN, h235, if_true, sA, mk_0]
  · have z1 : ¬ nI j = -1 := nI_ne_m1 (by omega)
    have hn0 : ¬ nI j < 0 := nI_pos (by omega)
    have z2 : hasI ((t.1 0).1 13) (nI j) = 1 := by rw [hasI_nI hj, hpj]; rfl
    refine ok (by rw [can_nI Q hj, hqj]; rfl) ?_
    unfold f_X7_weak
    simp (disch := omega) only [e_isRoot, hin, Option.bind_some, oz, if_false, z1, e_isObject hPm, z2, hn0, e_isReached e2 hj, hqj, if_true, chg_mk, addL, ibN, clN, h235, sA, mk_0]
  · have z1 : ¬ nI j = -1 := nI_ne_m1 (by omega)
    have hn0 : ¬ nI j < 0 := nI_pos (by omega)
    have z2 : hasI ((t.1 0).1 13) (nI j) = 1 := by rw [hasI_nI hj, hpj]; rfl
    refine no _ hbad hcan ?_
    unfold f_X7_weak
    simp only [e_isRoot, hin, Option.bind_some, oz, if_false, z1, e_isObject hPm, z2, hn0, e_isReached e2 hj, hqj, Bool.false_eq_true, if_true]
  · have z1 : ¬ nI j = -1 := nI_ne_m1 (by omega)
    have z2 : hasI ((t.1 0).1 13) (nI j) = 0 := by rw [hasI_nI hj, hpj]; rfl
    refine no _ hbad hcan ?_
    unfold f_X7_weak
    simp only [e_isRoot, hin, Option.bind_some, oz, if_false, z1, e_isObject hPm, z2, if_true]
