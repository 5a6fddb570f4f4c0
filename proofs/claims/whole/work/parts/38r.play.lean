/-! PURE: play, fault -/
theorem plays_sim {T : Nat → Int32} {L B : Nat} (ht : Txt T L) {w m : St} (hS : Sim w (m.2 0) B) (h1 : w.1 0 = nI L) (h2 : ∀ j, j < L → w.2 0 j = T j) (h3 : m.1 3 = nI L) (h4 : ∀ j, j < L → m.2 5 j = T j) (h5 : m.1 2 = 0) :
    ∃ w' m', f_X0_tryOn w = some (0, w') ∧ frT w w' ∧ frP m m' ∧
      ((∃ j, j ≤ 60 ∧ f_X7_plays m = some (-14, m') ∧ w'.1 8 = 0 ∧ w'.1 6 = nI j ∧ m'.1 6 = nI j ∧ Sim w' (m'.2 0) (B + 60)) ∨
       (∃ q, q < 60 ∧ f_X7_plays m = some (nI q, m') ∧ w'.1 7 = nI q ∧ ((w'.1 8 = 1 ∧ m'.1 5 = 0) ∨ (w'.1 8 = 2 ∧ m'.1 5 = w'.1 9 ∧ ¬ (-11 : Int32) < w'.1 9)))) := by
  have hS0 : Sim (sR (sR (sR w 1 0) 6 0) 8 0) ((sR (sR (sR m 2 1) 4 0) 6 0).2 0) B := Sim_lo ((hiS.st w (by omega) _).tr ((hiS.st _ (by omega) _).tr (hiS.st _ (by omega) _))) hS
  have hL := ht.1
  obtain ⟨w', m', a1, a2, a3, a4⟩ := try_loop ht 60 BIG BIG 0 0 B (sR (sR (sR w 1 0) 6 0) 8 0) (sR (sR (sR m 2 1) 4 0) 6 0) 0 (by omega) (by omega) (by omega) (Nat.le_of_ble_eq_true rfl) (Nat.le_of_ble_eq_true rfl) hS0 ⟨h1, h2, rfl⟩ ⟨h3, h4, rfl⟩ (show ¬ (1 : Int32) = 0 by decide) rfl rfl rfl
  have fp : frP m (sR m' 2 0) := by
    refine ⟨fun r hr => ?_, fun a b c => (a3.2 a b c).trans rfl⟩
    show (if r = 2 then 0 else m'.1 r) = m.1 r
    by_cases e : r = 2
    · rw [if_pos e, e, h5]
    · rw [if_neg e, a3.1 r hr]
      show (if r = 6 then _ else if r = 4 then _ else if r = 2 then _ else m.1 r) = m.1 r
      rw [if_neg (by omega), if_neg (by omega), if_neg e]
  refine ⟨w', sR m' 2 0, ?_, ⟨a2.1.trans rfl, a2.2.trans rfl⟩, fp, ?_⟩
  · have hz : (0 : Int32) = nI 0 := rfl
    unfold f_X0_tryOn
    exact a1
  · rcases a4 with ⟨x', j, b1, b2, b3⟩ | ⟨q, b1, b2, b3⟩
    · refine Or.inl ⟨j, b1, ?_, b3⟩
      unfold f_X7_plays
      rw [b2, Option.bind_some, if_neg (show ¬ (1 : Int32) = 0 by decide)]
    · refine Or.inr ⟨q, b1, ?_, b3⟩
      unfold f_X7_plays
      rw [b2, Option.bind_some, if_pos rfl]
theorem frP_copy (m : St) (g : Nat → Int32) : (sG m 2 g).1 = m.1 ∧ ∀ a, a ≠ 2 → (sG m 2 g).2 a = m.2 a := ⟨rfl, fun _ ha => if_neg ha⟩
theorem top_fault {t : TT} {m : St} {B L : Nat} {T : Nat → Int32} (h : RelT t m B T L) (x : Int32) : Top B (f_X6_fault x t) (f_X7_fault x m) := by
  have hh := h
  obtain ⟨r1, r2, r3, r4, r5, r6, r7, r8, r9, rH⟩ := hh
  have in2 : inI x 0 2 = isI x 3 := in_isI x 2 (by omega)
  have main : ∀ i, i < 3 → x = nI i → Top B (f_X6_fault x t) (f_X7_fault x m) := by
    intro i hi hx
    obtain ⟨g, e1, e2⟩ := cpy13 m
    have hS : Sim (mix (cpT t 1 0) 1) ((sG m 2 g).2 0) B := Sim_lo (mix_hi (cpT t 1 0) 1) (show Sim (t.1 0) (m.2 0) B from r7)
    obtain ⟨w', m', a1, a2, a3, a4⟩ := plays_sim r1 (w := mix (cpT t 1 0) 1) (m := sG m 2 g) hS r2 r3 r4 r5 r6
    obtain ⟨g2, e3, e4⟩ := cpy31 m'
    have hR : RelT (put (cpT t 1 0) 1 w') (sG m' 0 g2) B T L := by
      refine scratch_rel h (a2.1.trans rfl) (a2.2.trans rfl) (fun r hr => a3.1 r hr) (fun j hj => ?_) (a3.2 1 (by decide) (by decide)) (a3.2 4 (by decide) (by decide)) (a3.2 5 (by decide) (by decide))
      rw [sG_2, e4 j hj, a3.2 2 (by decide) (by decide), sG_2, e2 j hj]
    have hR2 := put_rel hR
    have x0 : ¬ x < 0 := by rw [hx]; exact nI_pos (by omega)
    have x2 : ¬ (2 : Int32) < x := by rw [hx]; exact fun q => by have := (nI_ltI (a := 2) (by omega) (by omega)).mp q; omega
    have hin : isI x 3 = 1 := by rw [hx]; exact isI_in (by omega) hi
    have cls : f_X6_fault x t = (f_X0_tellFault x (mix (put (cpT t 1 0) 1 w') 0)).bind fun o5 => some (o5.1, put (put (cpT t 1 0) 1 w') 0 o5.2) := by
      unfold f_X6_fault
      rw [if_neg x0, if_neg x2, a1, Option.bind_some]
    have m8 : (mix (put (cpT t 1 0) 1 w') 0).1 8 = w'.1 8 := rfl
    have m7 : (mix (put (cpT t 1 0) 1 w') 0).1 7 = w'.1 7 := rfl
    have m9 : (mix (put (cpT t 1 0) 1 w') 0).1 9 = w'.1 9 := rfl
    have fin : ∀ v, f_X0_tellFault x (mix (put (cpT t 1 0) 1 w') 0) = some (v, mix (put (cpT t 1 0) 1 w') 0) → f_X7_fault x m = some (v, sG m' 0 g2) → Top B (f_X6_fault x t) (f_X7_fault x m) := by
      intro v c1 c2
      exact ⟨v, _, _, T, L, by rw [cls, c1]; rfl, c2, RelT_mono (by omega) hR2⟩
    have mdl : ∀ v, f_X7_plays (sG m 2 g) = some (v, m') → f_X7_fault x m = if v = -14 then some (v, sG m' 0 g2) else if x = 0 then some (v, sG m' 0 g2) else if x = 1 then (if m'.1 5 = 0 then some (1, sG m' 0 g2) else some (2, sG m' 0 g2)) else (if m'.1 5 = 0 then some (-14, sG m' 0 g2) else some (m'.1 5, sG m' 0 g2)) := by
      intro v hv
      unfold f_X7_fault
      rw [e_in, in2, hin, Option.bind_some, if_neg (show ¬ (1 : Int32) = 0 by decide), e1, Option.bind_some, hv, Option.bind_some, e3, Option.bind_some]
      rfl
    have ci : x = 0 ∨ x = 1 ∨ x = 2 := by
      have : i = 0 ∨ i = 1 ∨ i = 2 := by omega
      rcases this with rfl | rfl | rfl
      · exact Or.inl hx
      · exact Or.inr (Or.inl hx)
      · exact Or.inr (Or.inr hx)
    rcases a4 with ⟨j, b1, b2, b3, b4⟩ | ⟨q, b1, b2, b3, b4⟩
    · refine fin (-14) ?_ ?_
      · unfold f_X0_tellFault
        rw [m8, b3, if_pos rfl]
      · rw [mdl _ b2, if_pos rfl]
    · have hq : ¬ nI q = -14 := by
        intro z
        have := ok_nI1 (n := q) (by omega)
        rw [z] at this
        exact absurd this (by decide)
      have tf : f_X0_tellFault x (mix (put (cpT t 1 0) 1 w') 0) = some (if w'.1 8 = 0 then -14 else if x = 2 then (if w'.1 8 = 1 then -14 else if x = 0 then w'.1 7 else if x = 1 then w'.1 8 else w'.1 9) else if x = 0 then w'.1 7 else if x = 1 then w'.1 8 else w'.1 9, mix (put (cpT t 1 0) 1 w') 0) := by
        unfold f_X0_tellFault
        rw [m8, m7, m9]
        by_cases z0 : w'.1 8 = 0
        · rw [if_pos z0, if_pos z0]
        · rw [if_neg z0, if_neg z0]
          by_cases z1 : x = 2
          · rw [if_pos z1, if_pos z1]
            by_cases z2 : w'.1 8 = 1
            · rw [if_pos z2, if_pos z2]
            · rw [if_neg z2, if_neg z2]
              split
              · rfl
              · split <;> rfl
          · rw [if_neg z1, if_neg z1]
            split
            · rfl
            · split <;> rfl
      rcases b4 with ⟨c1, c2⟩ | ⟨c1, c2, c3⟩
      · rcases ci with rfl | rfl | rfl
        · refine fin _ tf ?_
          rw [mdl _ b2, if_neg hq, if_pos rfl, c1, b3]
          rfl
        · refine fin _ tf ?_
          rw [mdl _ b2, if_neg hq, if_neg (by decide), if_pos rfl, if_pos c2, c1]
          rfl
        · refine fin _ tf ?_
          rw [mdl _ b2, if_neg hq, if_neg (by decide), if_neg (by decide), if_pos c2, c1]
          rfl
      · have c4 : ¬ m'.1 5 = 0 := by
          rw [c2]
          intro z
          rw [z] at c3
          exact c3 (by decide)
        rcases ci with rfl | rfl | rfl
        · refine fin _ tf ?_
          rw [mdl _ b2, if_neg hq, if_pos rfl, c1, b3]
          rfl
        · refine fin _ tf ?_
          rw [mdl _ b2, if_neg hq, if_neg (by decide), if_pos rfl, if_neg c4, c1]
          rfl
        · refine fin _ tf ?_
          rw [mdl _ b2, if_neg hq, if_neg (by decide), if_neg (by decide), if_neg c4, c1, c2]
          rfl
  rcases isI_or x 3 (by omega) with ⟨i, hi, hx, _⟩ | hin
  · exact main i hi hx
  · refine ⟨-11, t, m, T, L, ?_, ?_, RelT_mono (by omega) h⟩
    · unfold f_X6_fault
      by_cases x0 : x < 0
      · rw [if_pos x0]
      · rw [if_neg x0, if_pos ?_]
        rcases rng x 3 (by omega) with ⟨k, hk, rfl⟩ | z | ⟨_, z⟩
        · rw [isI_inN (by omega) hk] at hin; exact absurd hin (by decide)
        · exact absurd z x0
        · rw [Int32.lt_iff_toInt_lt] at z ⊢
          have e1 : (nI 3).toInt = 3 := by decide
          have e2 : (2 : Int32).toInt = 2 := by decide
          omega
    · unfold f_X7_fault
      rw [e_in, in2, show isI x 3 = 0 from hin]
      rfl
theorem top_play {t : TT} {m : St} {B L : Nat} {T : Nat → Int32} (h : RelT t m B T L) : Top B (f_X6_play t) (f_X7_play m) := by
  have hh := h
  obtain ⟨r1, r2, r3, r4, r5, r6, r7, r8, r9, f, s, hf, hs, h1, h2, h3, hH⟩ := hh
  obtain ⟨g, e1, e2⟩ := cpy13 m
  have hS : Sim (mix (cpT t 1 0) 1) ((sG m 2 g).2 0) B := Sim_lo (mix_hi (cpT t 1 0) 1) (show Sim (t.1 0) (m.2 0) B from r7)
  obtain ⟨w', m', a1, a2, a3, a4⟩ := plays_sim r1 (w := mix (cpT t 1 0) 1) (m := sG m 2 g) hS r2 r3 r4 r5 r6
  obtain ⟨g2, e3, e4⟩ := cpy31 m'
  have row0 : ∀ j, j < 235 → (sG m' 0 g2).2 0 j = m.2 0 j := by
    intro j hj
    rw [sG_2, e4 j hj, a3.2 2 (by decide) (by decide), sG_2, e2 j hj]
  have hR : RelT (put (cpT t 1 0) 1 w') (sG m' 0 g2) B T L := scratch_rel h (a2.1.trans rfl) (a2.2.trans rfl) (fun r hr => a3.1 r hr) row0 (a3.2 1 (by decide) (by decide)) (a3.2 4 (by decide) (by decide)) (a3.2 5 (by decide) (by decide))
  have c8 : (put (cpT t 1 0) 1 w').2.1.1 8 = w'.1 8 := rfl
  rcases a4 with ⟨j, b1, b2, b3, b4, b5, b6⟩ | ⟨q, b1, b2, b3, b4⟩
  · obtain ⟨g3, ec, d1, d2⟩ := chg_sim (m := sG m' 0 g2) (s := s) ((a3.1 2 (by omega)).trans r6) ((a3.1 1 (by omega)).trans h3) hs
    have hS2 : Sim (mix (cpT t 1 0) 1) ((sR (sG (sG m' 0 g2) 1 g3) 1 (nI (if s = 4 then 4 else s + 1))).2 0) B := Sim_row (Sim_lo (mix_hi (cpT t 1 0) 1) (show Sim (t.1 0) (m.2 0) B from r7)) row0
    obtain ⟨w2, m2, p1, p2, p3, p4⟩ := plays_sim r1 (w := mix (cpT t 1 0) 1) (m := sR (sG (sG m' 0 g2) 1 g3) 1 (nI (if s = 4 then 4 else s + 1))) hS2 r2 r3 ((a3.1 3 (by omega)).trans r4) (fun j hj => by
      show m'.2 5 j = T j
      rw [a3.2 5 (by decide) (by decide)]
      exact r5 j hj) ((a3.1 2 (by omega)).trans r6)
    have hw : w2 = w' := congrArg Prod.snd (Option.some.inj (p1.symm.trans a1))
    subst hw
    rcases p4 with ⟨j2, q1, q2, q3, q4, q5, q6⟩ | ⟨q, _, _, _, q4⟩
    · have hjj : j2 = j := nI_inj (by omega) (by omega) (q4.symm.trans b4)
      subst hjj
      have hn : f_X2_note (put (cpT t 1 0) 1 w2) = some (0, cpT (put (cpT t 1 0) 1 w2) (3 + (f + s) % 5) 0) := e_note hf hs h1 h2
      have hm5 : (f + s) % 5 < 5 := Nat.mod_lt _ (by omega)
      have hh := hist_ok (t := t) (t1 := cpT (cpT (put (cpT t 1 0) 1 w2) (3 + (f + s) % 5) 0) 0 1) (m := sG m' 0 g2) (m' := m2) (B := B) (g := g3) hf hs h1 h2 (fun i hi => ?_) (Sim_row r7 row0) (fun i hi => ?_) ?_ d1 d2 ((p3.1 1 (by omega)).trans rfl) ((p3.2 1 (by decide) (by decide)).trans rfl)
      · have hv : (-11 : Int32) < nI j2 := ok_nI1 (by omega)
        refine ⟨nI j2, if s = 4 then tR (cpT (cpT (put (cpT t 1 0) 1 w2) (3 + (f + s) % 5) 0) 0 1) 1 (nI ((f + 1) % 5)) else tR (cpT (cpT (put (cpT t 1 0) 1 w2) (3 + (f + s) % 5) 0) 0 1) 2 (nI (s + 1)), m2, T, L, ?_, ?_, ?_⟩
        · unfold f_X6_play
          rw [a1, Option.bind_some, c8, b3, if_pos rfl, hn, Option.bind_some, show (cpT (cpT (put (cpT t 1 0) 1 w2) (3 + (f + s) % 5) 0) 0 1).2.1.1 6 = nI j2 from b4, e_settle_ok (t := cpT (cpT (put (cpT t 1 0) 1 w2) (3 + (f + s) % 5) 0) 0 1) hv hf hs h1 h2]
          rfl
        · unfold f_X7_play
          rw [e1, Option.bind_some, b2, Option.bind_some, e3, Option.bind_some, if_pos rfl, ec, Option.bind_some, q2, Option.bind_some, if_pos rfl, q5]
        · have k1 : ∀ x, x = (if s = 4 then tR (cpT (cpT (put (cpT t 1 0) 1 w2) (3 + (f + s) % 5) 0) 0 1) 1 (nI ((f + 1) % 5)) else tR (cpT (cpT (put (cpT t 1 0) 1 w2) (3 + (f + s) % 5) 0) 0 1) 2 (nI (s + 1))) → x.1 0 = w2 ∧ x.2.1 = w2 ∧ x.2.2 0 = t.2.2 0 ∧ x.1 2 = t.1 2 := by
            have w1 : (cpT (cpT (put (cpT t 1 0) 1 w2) (3 + (f + s) % 5) 0) 0 1).1 0 = w2 := by
              show (if 1 = 3 + (f + s) % 5 then _ else w2) = w2
              rw [if_neg (by omega)]
            have w22 : (cpT (cpT (put (cpT t 1 0) 1 w2) (3 + (f + s) % 5) 0) 0 1).1 2 = t.1 2 := by
              show (if 2 = 3 + (f + s) % 5 then _ else t.1 2) = t.1 2
              rw [if_neg (by omega)]
            intro x hx
            by_cases h4 : s = 4
            · rw [if_pos h4] at hx; subst hx
              exact ⟨w1, rfl, rfl, w22⟩
            · rw [if_neg h4] at hx; subst hx
              exact ⟨w1, rfl, rfl, w22⟩
          obtain ⟨k2, k3, k4, k5⟩ := k1 _ rfl
          refine ⟨r1, ?_, fun j hj => ?_, ?_, fun j hj => ?_, ?_, ?_, ?_, ?_, HistR_mono (by omega) hh⟩
          · rw [k3]; exact p2.1.trans r2
          · rw [k3, p2.2]; exact r3 j hj
          · exact (p3.1 3 (by omega)).trans ((a3.1 3 (by omega)).trans r4)
          · rw [p3.2 5 (by decide) (by decide)]
            show m'.2 5 j = T j
            rw [a3.2 5 (by decide) (by decide)]
            exact r5 j hj
          · exact (p3.1 2 (by omega)).trans ((a3.1 2 (by omega)).trans r6)
          · rw [k2]; exact Sim_mono (by omega) q6
          · rw [k4]; exact (p3.1 0 (by omega)).trans ((a3.1 0 (by omega)).trans r8)
          · rw [k4, k5]
            refine r9.imp id (fun q => ⟨q.1, ?_⟩)
            rw [p3.2 4 (by decide) (by decide)]
            show Sim (t.1 2) (m'.2 4) (B + 64)
            rw [a3.2 4 (by decide) (by decide)]
            exact Sim_mono (by omega) q.2
      · show Sim _ (fun j => m'.2 1 (235 * i + j)) B
        rw [a3.2 1 (by decide) (by decide)]
        exact hH i hi
      · show (if 3 + (f + i) % 5 = 0 then _ else if 3 + (f + i) % 5 = 3 + (f + s) % 5 then _ else if 3 + (f + i) % 5 = 1 then _ else if 3 + (f + i) % 5 = 1 then _ else t.1 (3 + (f + i) % 5)) = _
        rw [if_neg (by omega), if_neg (by omega), if_neg (by omega), if_neg (by omega)]
      · show (if 3 + (f + s) % 5 = 0 then _ else if 3 + (f + s) % 5 = 3 + (f + s) % 5 then t.1 0 else _) = t.1 0
        rw [if_neg (by omega), if_pos rfl]
    · rcases q4 with ⟨z, _⟩ | ⟨z, _⟩
      · rw [b3] at z; exact absurd z (by decide)
      · rw [b3] at z; exact absurd z (by decide)
  · have hq : ¬ nI q = -14 := by
      intro z
      have := ok_nI1 (n := q) (by omega)
      rw [z] at this
      exact absurd this (by decide)
    have h8 : ¬ w'.1 8 = 0 := by
      rcases b4 with ⟨z, _⟩ | ⟨z, _⟩ <;> rw [z] <;> decide
    refine ⟨-12, put (cpT t 1 0) 1 w', sG m' 0 g2, T, L, ?_, ?_, RelT_mono (by omega) hR⟩
    · unfold f_X6_play
      rw [a1, Option.bind_some, c8, if_neg h8]
    · unfold f_X7_play
      rw [e1, Option.bind_some, b2, Option.bind_some, e3, Option.bind_some, if_neg hq]
