/-! PURE: keep, restore, undo, wouldGo, type, clearText -/
theorem HistR_mono {t : TT} {m : St} {B B' : Nat} (hB : B ≤ B') (h : HistR t m B) : HistR t m B' := by
  obtain ⟨f, s, hf, hs, h1, h2, h3, hH⟩ := h
  exact ⟨f, s, hf, hs, h1, h2, h3, fun i hi => Sim_mono hB (hH i hi)⟩
theorem e_count0 {w m : St} {B : Nat} (h : Sim w (m.2 0) B) : f_X7_count 0 m = some (nI (cnt (tb (w.1 13)) 24), m) ∧ f_X1_size w = some (nI (cnt (tb (w.1 13)) 24), w) := by
  obtain ⟨rw, li, hS⟩ := h
  refine ⟨?_, e_size w hS.1.1.1⟩
  unfold f_X7_count
  rw [if_pos rfl, those_p hS.1]
  simp only [Option.bind_some, e_ones]
theorem top_keep {t : TT} {m : St} {B L : Nat} {T : Nat → Int32} (h : RelT t m B T L) : Top B (f_X6_keep t) (f_X7_keep m) := by
  obtain ⟨g, e1, e2⟩ := cpy15 m
  have hR : RelT (tR (cpT t 2 0) 0 1) (sR (sG m 4 g) 0 1) B T L := by
    obtain ⟨r1, r2, r3, r4, r5, r6, r7, r8, r9, f, s, hf, hs, h1, h2, h3, hH⟩ := h
    refine ⟨r1, r2, r3, r4, r5, r6, r7, rfl, Or.inr ⟨rfl, ?_⟩, f, s, hf, hs, h1, h2, h3, fun i hi => ?_⟩
    · show Sim (t.1 0) ((sG m 4 g).2 4) B
      rw [sG_2]
      exact Sim_row r7 e2
    · show Sim (if 3 + (f + i) % 5 = 2 then _ else t.1 (3 + (f + i) % 5)) _ B
      rw [if_neg (by omega)]
      exact hH i hi
  obtain ⟨c1, c2⟩ := e_count0 (mix_sim hR)
  refine ⟨nI (cnt (tb ((mix (tR (cpT t 2 0) 0 1) 0).1 13)) 24), put (tR (cpT t 2 0) 0 1) 0 (mix (tR (cpT t 2 0) 0 1) 0), sR (sG m 4 g) 0 1, T, L, ?_, ?_, RelT_mono (by omega) (put_rel hR)⟩
  · unfold f_X6_keep
    rw [c2]
    rfl
  · unfold f_X7_keep
    rw [e1]
    simp only [Option.bind_some]
    rw [c1]
    rfl
theorem top_undo {t : TT} {m : St} {B L : Nat} {T : Nat → Int32} (h : RelT t m B T L) : Top B (f_X6_undo t) (f_X7_undo m) := by
  have h' := h
  obtain ⟨r1, r2, r3, r4, r5, r6, r7, r8, r9, f, s, hf, hs, h1, h2, h3, hH⟩ := h'
  by_cases hs0 : s = 0
  · subst hs0
    refine ⟨-12, t, m, T, L, ?_, ?_, RelT_mono (by omega) h⟩
    · unfold f_X6_undo f_X2_takeBack
      rw [h2, if_neg (by decide)]
      rfl
    · unfold f_X7_undo
      rw [h3, if_pos (show nI 0 = 0 from rfl)]
  · obtain ⟨s, rfl⟩ : ∃ q, s = q + 1 := ⟨s - 1, by omega⟩
    have hm5 : (f + s) % 5 < 5 := Nat.mod_lt _ (by omega)
    obtain ⟨g, e1, _, e2⟩ := undo22 (s := s) (by omega) BIG 0 (sR m 1 (nI s)) rfl (by omega) (by unfold BIG; omega)
    refine ⟨nI s, cpT (tR t 2 (nI s)) 0 (3 + (f + s) % 5), sG (sR m 1 (nI s)) 0 g, T, L, ?_, ?_, RelT_mono (show B ≤ B + 64 by omega) ⟨r1, r2, r3, r4, r5, r6, ?_, r8, r9, f, s, hf, by omega, h1, rfl, rfl, fun i hi => ?_⟩⟩
    · unfold f_X6_undo f_X2_takeBack
      rw [h2, if_pos (show (0 : Int32) < nI (s + 1) from (nI_ltI (a := 0) (by omega) (by omega)).mpr (by omega)), subL1, h1, nI_add, e_fm (by omega)]
      simp only [Option.bind_some]
      rw [if_pos ((ibN (by omega)).mpr hm5), clN (by omega)]
      rfl
    · unfold f_X7_undo
      rw [h3, if_neg (fun q => by have := (nI_eq (a := s + 1) (b := 0) (by omega) (by omega)).mp q; omega), subL1, show f_X7_undo_L22 BIG 0 (sR m 1 (nI s)) = _ from e1]
      rfl
    · show Sim (t.1 (3 + (f + s) % 5)) ((sG (sR m 1 (nI s)) 0 g).2 0) B
      rw [sG_2]
      exact Sim_row (hH s (by omega)) (fun j hj => e2 j (Nat.zero_le j) hj)
    · show Sim (if 3 + (f + i) % 5 = 0 then _ else t.1 (3 + (f + i) % 5)) _ B
      rw [if_neg (by omega)]
      exact hH i (by omega)
theorem top_restore {t : TT} {m : St} {B L : Nat} {T : Nat → Int32} (h : RelT t m B T L) : Top B (f_X6_restore t) (f_X7_restore m) := by
  have h' := h
  obtain ⟨r1, r2, r3, r4, r5, r6, r7, r8, r9, f, s, hf, hs, h1, h2, h3, hH⟩ := h'
  rcases r9 with h0 | ⟨h0, hk⟩
  · refine ⟨-12, t, m, T, L, ?_, ?_, RelT_mono (by omega) h⟩
    · unfold f_X6_restore; rw [if_pos h0]
    · unfold f_X7_restore; rw [if_pos (r8.trans h0)]
  · have hne : ¬ t.2.2 0 = 0 := by rw [h0]; decide
    obtain ⟨g, ec, b1, b2⟩ := chg_sim r6 h3 hs
    have hn := e_note hf hs h1 h2
    have hm5 : (f + s) % 5 < 5 := Nat.mod_lt _ (by omega)
    obtain ⟨g2, e1, e2⟩ := cpy51 (sR (sG m 1 g) 1 (nI (if s = 4 then 4 else s + 1)))
    have c2 : (cpT t (3 + (f + s) % 5) 0).1 2 = t.1 2 := if_neg (by omega)
    have hS2 : Sim (mix (cpT (cpT t (3 + (f + s) % 5) 0) 0 2) 0) ((sG (sR (sG m 1 g) 1 (nI (if s = 4 then 4 else s + 1))) 0 g2).2 0) B := by
      rw [sG_2]
      refine Sim_lo (mix_hi _ 0) ?_
      show Sim ((cpT t (3 + (f + s) % 5) 0).1 2) g2 B
      rw [c2]
      exact Sim_row hk e2
    obtain ⟨q1, q2⟩ := e_count0 hS2
    have hh := hist_ok (t := t) (t1 := put (cpT (cpT t (3 + (f + s) % 5) 0) 0 2) 0 (mix (cpT (cpT t (3 + (f + s) % 5) 0) 0 2) 0)) (m := m) (m' := sG (sR (sG m 1 g) 1 (nI (if s = 4 then 4 else s + 1))) 0 g2) hf hs h1 h2 hH r7 (fun i hi => ?_) ?_ b1 b2 rfl rfl
    · have hv : (-11 : Int32) < nI (cnt (tb ((mix (cpT (cpT t (3 + (f + s) % 5) 0) 0 2) 0).1 13)) 24) := (ok_nI (by have := cnt_le (tb ((mix (cpT (cpT t (3 + (f + s) % 5) 0) 0 2) 0).1 13)) 24; omega)).1
      refine ⟨nI (cnt (tb ((mix (cpT (cpT t (3 + (f + s) % 5) 0) 0 2) 0).1 13)) 24), if s = 4 then tR (put (cpT (cpT t (3 + (f + s) % 5) 0) 0 2) 0 (mix (cpT (cpT t (3 + (f + s) % 5) 0) 0 2) 0)) 1 (nI ((f + 1) % 5)) else tR (put (cpT (cpT t (3 + (f + s) % 5) 0) 0 2) 0 (mix (cpT (cpT t (3 + (f + s) % 5) 0) 0 2) 0)) 2 (nI (s + 1)), sG (sR (sG m 1 g) 1 (nI (if s = 4 then 4 else s + 1))) 0 g2, T, L, ?_, ?_, ?_⟩
      · unfold f_X6_restore
        rw [if_neg hne, hn]
        simp only [Option.bind_some]
        rw [q2]
        simp only [Option.bind_some]
        rw [e_settle_ok (t := put (cpT (cpT t (3 + (f + s) % 5) 0) 0 2) 0 (mix (cpT (cpT t (3 + (f + s) % 5) 0) 0 2) 0)) hv hf hs h1 h2]
        rfl
      · unfold f_X7_restore
        rw [if_neg (fun q => hne (r8.symm.trans q)), ec]
        simp only [Option.bind_some]
        rw [e1]
        simp only [Option.bind_some]
        rw [q1]
        rfl
      · have q1 : ∀ x, x = (if s = 4 then tR (put (cpT (cpT t (3 + (f + s) % 5) 0) 0 2) 0 (mix (cpT (cpT t (3 + (f + s) % 5) 0) 0 2) 0)) 1 (nI ((f + 1) % 5)) else tR (put (cpT (cpT t (3 + (f + s) % 5) 0) 0 2) 0 (mix (cpT (cpT t (3 + (f + s) % 5) 0) 0 2) 0)) 2 (nI (s + 1))) → x.1 0 = mix (cpT (cpT t (3 + (f + s) % 5) 0) 0 2) 0 ∧ x.2.1.1 0 = t.2.1.1 0 ∧ x.2.1.2 0 = t.2.1.2 0 ∧ x.2.2 0 = t.2.2 0 ∧ x.1 2 = t.1 2 := by
          intro x hx
          by_cases h4 : s = 4
          · rw [if_pos h4] at hx; subst hx
            exact ⟨rfl, rfl, rfl, rfl, c2⟩
          · rw [if_neg h4] at hx; subst hx
            exact ⟨rfl, rfl, rfl, rfl, c2⟩
        obtain ⟨q2, q3, q3', q4, q5⟩ := q1 _ rfl
        refine RelT_mono (show B + 1 ≤ B + 64 by omega) ⟨r1, q3.trans r2, fun j hj => by rw [q3']; exact r3 j hj, r4, r5, r6, ?_, r8.trans q4.symm, Or.inr ⟨q4.trans h0, ?_⟩, hh⟩
        · rw [q2]; exact Sim_mono (Nat.le_succ B) hS2
        · rw [q5]; exact Sim_mono (Nat.le_succ B) hk
    · show (if 3 + (f + i) % 5 = 0 then _ else if 3 + (f + i) % 5 = 0 then _ else (cpT t (3 + (f + s) % 5) 0).1 (3 + (f + i) % 5)) = _
      rw [if_neg (by omega), if_neg (by omega)]
      exact if_neg (by omega)
    · show (if 3 + (f + s) % 5 = 0 then _ else if 3 + (f + s) % 5 = 0 then _ else (cpT t (3 + (f + s) % 5) 0).1 (3 + (f + s) % 5)) = _
      rw [if_neg (by omega), if_neg (by omega)]
      exact if_pos rfl
theorem scratch_rel {t : TT} {m m' : St} {B L : Nat} {T : Nat → Int32} {w' : St} (h : RelT t m B T L) (hw1 : w'.1 0 = t.2.1.1 0) (hw2 : w'.2 0 = t.2.1.2 0) (hm : ∀ r, r < 4 → m'.1 r = m.1 r) (h0 : ∀ j, j < 235 → m'.2 0 j = m.2 0 j) (h1 : m'.2 1 = m.2 1) (h4 : m'.2 4 = m.2 4) (h5 : m'.2 5 = m.2 5) : RelT (put (cpT t 1 0) 1 w') m' B T L := by
  obtain ⟨r1, r2, r3, r4, r5, r6, r7, r8, r9, f, s, hf, hs, q1, q2, q3, hH⟩ := h
  refine ⟨r1, hw1.trans r2, fun j hj => by show w'.2 0 j = T j; rw [hw2]; exact r3 j hj, (hm 3 (by omega)).trans r4, fun j hj => by rw [h5]; exact r5 j hj, (hm 2 (by omega)).trans r6, Sim_row r7 h0, (hm 0 (by omega)).trans r8, r9.imp id (fun q => ⟨q.1, by rw [h4]; exact q.2⟩), f, s, hf, hs, q1, q2, (hm 1 (by omega)).trans q3, fun i hi => ?_⟩
  show Sim (if 3 + (f + i) % 5 = 1 then _ else if 3 + (f + i) % 5 = 1 then _ else t.1 (3 + (f + i) % 5)) _ B
  rw [if_neg (by omega), if_neg (by omega), h1]
  exact hH i hi
theorem top_wouldGo {t : TT} {m : St} {B L : Nat} {T : Nat → Int32} (h : RelT t m B T L) : Top B (f_X6_wouldGo t) (f_X7_wouldGo m) := by
  obtain ⟨g, e1, e2⟩ := cpy14 m
  have hS : Sim (mix (cpT t 1 0) 1) ((sG m 3 g).2 0) B := Sim_lo (mix_hi (cpT t 1 0) 1) (show Sim (t.1 0) (m.2 0) B from h.2.2.2.2.2.2.1)
  obtain ⟨rw0, li0, hS0⟩ := hS
  obtain ⟨j, w', s', hj, a1, a2, a3, a4⟩ := doAll_sim (m := sG m 3 g) ⟨rw0, li0, hS0⟩
  obtain ⟨rw1, li1, a3'⟩ := a3
  obtain ⟨g2, e3, e4⟩ := cpy41 (sG (sG m 3 g) 0 s')
  have k1 : ((put (cpT t 1 0) 1 w').1 0).1 13 = (t.1 0).1 13 := rfl
  have k2 : ((put (cpT t 1 0) 1 w').1 1).1 13 = w'.1 13 := rfl
  have k3 : (mix (cpT t 1 0) 1).1 13 = (t.1 0).1 13 := rfl
  have p1 := those_p hS0.1
  have p2 := those_p (m := sG (sG m 3 g) 0 s') (by rw [sG_2]; exact a3'.1)
  refine ⟨(t.1 0).1 13 &&& (w'.1 13 ^^^ (-1)), put (cpT t 1 0) 1 w', sG (sG (sG m 3 g) 0 s') 0 g2, T, L, ?_, ?_, RelT_mono (show B ≤ B + 64 by omega) (scratch_rel h ?_ ?_ (fun _ _ => rfl) (fun j hj => ?_) rfl rfl rfl)⟩
  · unfold f_X6_wouldGo
    rw [a1, Option.bind_some, k1, k2]
  · unfold f_X7_wouldGo
    rw [e1, Option.bind_some, p1, Option.bind_some, a2, Option.bind_some, p2, Option.bind_some, e3, Option.bind_some]
    rw [if_neg (nI_pos (by omega)), k3]
  · exact (a4.1 0 (by omega)).trans rfl
  · exact a4.2.trans rfl
  · rw [sG_2, e4 j hj]
    exact (e2 j hj)
theorem top_type {t : TT} {m : St} {B L : Nat} {T : Nat → Int32} (h : RelT t m B T L) (x : Int32) : Top B (f_X6_type x t) (f_X7_type x m) := by
  have h' := put_rel h
  have hh := h
  obtain ⟨r1, r2, r3, r4, r5, r6, r7, r8, r9, f, s, hf, hs, q1, q2, q3, hH⟩ := hh
  have hL := r1.1
  have ml : (mix t 0).1 0 = nI L := r2
  unfold f_X6_type f_X7_type f_X0_append
  rw [e_in]
  unfold inI
  by_cases h1 : x < 32
  · rw [if_pos h1, if_pos h1]
    exact ⟨-11, _, m, T, L, rfl, rfl, RelT_mono (by omega) h'⟩
  rw [if_neg h1, if_neg h1]
  by_cases h2 : (126 : Int32) < x
  · rw [if_pos h2, if_pos h2]
    exact ⟨-11, _, m, T, L, rfl, rfl, RelT_mono (by omega) h'⟩
  rw [if_neg h2, if_neg h2]
  simp only [Option.bind_some, oz, if_false]
  rw [ml, r4]
  obtain ⟨c, c1, c2, rfl⟩ : ∃ c, 32 ≤ c ∧ c ≤ 126 ∧ x = nI c := by
    rcases rng x 127 (by omega) with ⟨c, hc, rfl⟩ | z | ⟨_, z⟩
    · refine ⟨c, ?_, by omega, rfl⟩
      rcases Nat.lt_or_ge c 32 with y | y
      · exact absurd ((ltL (by omega) (by omega)).mpr y) h1
      · exact y
    · exact absurd (Int32.lt_trans z (by decide)) h1
    · exfalso
      rw [Int32.lt_iff_toInt_lt] at h2 z
      have e1 : (nI 127).toInt = 127 := by decide
      have e2 : (126 : Int32).toInt = 126 := by decide
      omega
  by_cases h3 : L < 60
  · rw [if_pos ((ltL (by omega) (by omega)).mpr h3), if_pos ((ibN (by omega)).mpr h3), if_neg (show ¬ nI L = 60 from fun q => by have := (nI_eq (a := L) (b := 60) (by omega) (by omega)).mp q; omega), if_pos ((ibN (by omega)).mpr h3), nI_eq_of]
    refine ⟨_, _, _, upd T L (nI c), L + 1, rfl, rfl, RelT_mono (show B ≤ B + 64 by omega) ⟨⟨by omega, fun j hj => ?_⟩, rfl, fun j hj => ?_, rfl, fun j hj => ?_, r6, ?_, r8, r9, f, s, hf, hs, q1, q2, q3, fun i hi => ?_⟩⟩
    · by_cases e : j = L
      · subst e; exact ⟨c, c1, c2, upd_eq _ _ _⟩
      · rw [upd_ne e]; exact r1.2 j (by omega)
    · show upd (t.2.1.2 0) (nI L).toNatClampNeg (nI c) j = upd T L (nI c) j
      rw [clN (by omega)]
      by_cases e : j = L
      · rw [e, upd_eq, upd_eq]
      · rw [upd_ne e, upd_ne e]; exact r3 j (by omega)
    · show upd (m.2 5) (nI L).toNatClampNeg (nI c) j = upd T L (nI c) j
      rw [clN (by omega)]
      by_cases e : j = L
      · rw [e, upd_eq, upd_eq]
      · rw [upd_ne e, upd_ne e]; exact r5 j (by omega)
    · refine Sim_lo (w := mix t 0) ⟨fun r hr => ?_, fun a ha => ?_⟩ (show Sim (mix t 0) (m.2 0) B from mix_sim h)
      · exact if_neg (by omega)
      · exact if_neg ha
    · show Sim (if 3 + (f + i) % 5 = 0 then _ else t.1 (3 + (f + i) % 5)) _ B
      rw [if_neg (by omega)]
      exact hH i hi
  · have hLe : L = 60 := by omega
    subst hLe
    rw [if_neg (show ¬ nI 60 < 60 by decide), if_pos (show nI 60 = 60 from rfl)]
    exact ⟨-13, _, m, T, 60, rfl, rfl, RelT_mono (by omega) h'⟩
theorem top_clearText {t : TT} {m : St} {B L : Nat} {T : Nat → Int32} (h : RelT t m B T L) : Top B (f_X6_clearText t) (f_X7_clearText m) := by
  have hh := h
  obtain ⟨r1, r2, r3, r4, r5, r6, r7, r8, r9, f, s, hf, hs, q1, q2, q3, hH⟩ := hh
  refine ⟨nI L, put t 0 (sR (mix t 0) 0 0), sR m 3 0, T, 0, ?_, ?_, RelT_mono (show B ≤ B + 64 by omega) ⟨⟨by omega, fun j hj => by omega⟩, rfl, fun j hj => by omega, rfl, fun j hj => by omega, r6, ?_, r8, r9, f, s, hf, hs, q1, q2, q3, fun i hi => ?_⟩⟩
  · unfold f_X6_clearText f_X0_empty
    rw [show (mix t 0).1 0 = nI L from r2]
    rfl
  · unfold f_X7_clearText
    rw [r4]
  · exact Sim_lo (hiS.st _ (by omega) _) (show Sim (mix t 0) (m.2 0) B from mix_sim h)
  · show Sim (if 3 + (f + i) % 5 = 0 then _ else t.1 (3 + (f + i) % 5)) _ B
    rw [if_neg (by omega)]
    exact hH i hi
