/-! PURE: the eight states and the model's rows -/
def HistR (t : TT) (m : St) (B : Nat) : Prop := ∃ f s, f < 5 ∧ s ≤ 4 ∧ t.2.2 1 = nI f ∧ t.2.2 2 = nI s ∧ m.1 1 = nI s ∧ ∀ i, i < s → Sim (t.1 (3 + (f + i) % 5)) (fun j => m.2 1 (235 * i + j)) B
def RelT (t : TT) (m : St) (B : Nat) (T : Nat → Int32) (L : Nat) : Prop :=
  Txt T L ∧ t.2.1.1 0 = nI L ∧ (∀ j, j < L → t.2.1.2 0 j = T j) ∧ m.1 3 = nI L ∧ (∀ j, j < L → m.2 5 j = T j) ∧ m.1 2 = 0 ∧ Sim (t.1 0) (m.2 0) B ∧ m.1 0 = t.2.2 0 ∧ (t.2.2 0 = 0 ∨ (t.2.2 0 = 1 ∧ Sim (t.1 2) (m.2 4) B)) ∧ HistR t m B
theorem mix_hi (t : TT) (i : Nat) : hiS (t.1 i) (mix t i) := ⟨fun r hr => if_neg (by omega), fun a ha => if_neg ha⟩
theorem mix_lo (t : TT) (i : Nat) : (∀ r, r < 10 → (mix t i).1 r = t.2.1.1 r) ∧ (mix t i).2 0 = t.2.1.2 0 := ⟨fun _ hr => if_pos hr, rfl⟩
theorem e_note {t : TT} {f s : Nat} (hf : f < 5) (hs : s ≤ 4) (h1 : t.2.2 1 = nI f) (h2 : t.2.2 2 = nI s) : f_X2_note t = some (0, cpT t (3 + (f + s) % 5) 0) := by
  have hm : (f + s) % 5 < 5 := Nat.mod_lt _ (by omega)
  unfold f_X2_note
  rw [h1, h2, nI_add, e_fm (by omega), Option.bind_some, if_pos ((ibN (by omega)).mpr hm), clN (by omega)]
theorem e_settle_err {v : Int32} (h : ¬ (-11 : Int32) < v) (t : TT) : f_X2_settle v t = some (v, t) := by
  unfold f_X2_settle
  rw [e_isError, if_neg h]
  rfl
theorem e_settle_ok {v : Int32} (h : (-11 : Int32) < v) {t : TT} {f s : Nat} (hf : f < 5) (hs : s ≤ 4) (h1 : t.2.2 1 = nI f) (h2 : t.2.2 2 = nI s) : f_X2_settle v t = some (v, if s = 4 then tR t 1 (nI ((f + 1) % 5)) else tR t 2 (nI (s + 1))) := by
  unfold f_X2_settle
  rw [e_isError, if_pos h]
  simp only [Option.bind_some, if_true]
  rw [h2]
  by_cases h4 : s = 4
  · subst h4
    rw [if_neg (show ¬ nI 4 < 4 by decide), if_pos rfl, h1, nI_eq_of, e_fm (by omega)]
    rfl
  · rw [if_pos (show nI s < 4 from (ltL (by omega) (by omega)).mpr (by omega)), if_neg h4, nI_eq_of]
/-- behind a change that is no error: the states, the ring, the model's past -/
theorem hist_ok {t t1 : TT} {m m' : St} {B f s : Nat} {g : Nat → Int32} (hf : f < 5) (hs : s ≤ 4) (h1 : t1.2.2 1 = nI f) (h2 : t1.2.2 2 = nI s) (hH : ∀ i, i < s → Sim (t.1 (3 + (f + i) % 5)) (fun j => m.2 1 (235 * i + j)) B) (hS : Sim (t.1 0) (m.2 0) B)
    (hold : ∀ i, i < s → t1.1 (3 + (f + i) % 5) = t.1 (3 + (f + i) % 5)) (hnew : t1.1 (3 + (f + s) % 5) = t.1 0)
    (b1 : ∀ j, j < 235 → g (235 * (if s = 4 then 3 else s) + j) = m.2 0 j) (b2 : ∀ i j, i < (if s = 4 then 3 else s) → j < 235 → g (235 * i + j) = m.2 1 (235 * (if s = 4 then i + 1 else i) + j))
    (hm1 : m'.1 1 = nI (if s = 4 then 4 else s + 1)) (hm2 : m'.2 1 = g) : HistR (if s = 4 then tR t1 1 (nI ((f + 1) % 5)) else tR t1 2 (nI (s + 1))) m' (B + 1) := by
  by_cases h4 : s = 4
  · subst h4
    rw [if_pos rfl] at b1 hm1 ⊢
    refine ⟨(f + 1) % 5, 4, Nat.mod_lt _ (by omega), by omega, rfl, h2, hm1, fun i hi => ?_⟩
    rw [hm2]
    show Sim (t1.1 (3 + ((f + 1) % 5 + i) % 5)) _ (B + 1)
    by_cases h3 : i = 3
    · subst h3
      rw [show ((f + 1) % 5 + 3) % 5 = (f + 4) % 5 by omega, hnew]
      exact Sim_row (Sim_mono (Nat.le_succ B) hS) (fun j hj => b1 j hj)
    · rw [show ((f + 1) % 5 + i) % 5 = (f + (i + 1)) % 5 by omega, hold (i + 1) (by omega)]
      refine Sim_row (Sim_mono (Nat.le_succ B) (hH (i + 1) (by omega))) (fun j hj => ?_)
      have := b2 i j (by rw [if_pos rfl]; omega) hj
      rw [if_pos rfl] at this
      exact this
  · rw [if_neg h4] at b1 hm1 ⊢
    refine ⟨f, s + 1, hf, by omega, h1, rfl, hm1, fun i hi => ?_⟩
    rw [hm2]
    show Sim (t1.1 (3 + (f + i) % 5)) _ (B + 1)
    by_cases h3 : i = s
    · subst h3
      rw [hnew]
      exact Sim_row (Sim_mono (Nat.le_succ B) hS) (fun j hj => b1 j hj)
    · rw [hold i (by omega)]
      refine Sim_row (Sim_mono (Nat.le_succ B) (hH i (by omega))) (fun j hj => ?_)
      have := b2 i j (by rw [if_neg h4]; omega) hj
      rw [if_neg h4] at this
      exact this
theorem chg_top {t : TT} {m : St} {B L : Nat} {T : Nat → Int32} (h : RelT t m B T L) (c : St → Option (Int32 × St)) (mo : Option (Int32 × St)) (hc : ∀ w m', Sim w (m.2 0) B → f_X7_changes m = some (0, m') → m'.2 0 = m.2 0 → ChS w m m' B (c w) mo) :
    ∃ v t' m', ((f_X2_note t).bind fun o1 => (c (mix o1.2 0)).bind fun o3 => (f_X2_settle o3.1 (put o1.2 0 o3.2)).bind fun o5 => some (o5.1, o5.2)) = some (v, t') ∧ mo = some (v, m') ∧ RelT t' m' (B + 1) T L := by
  obtain ⟨r1, r2, r3, r4, r5, r6, r7, r8, r9, f, s, hf, hs, h1, h2, h3, hH⟩ := h
  obtain ⟨g, ec, b1, b2⟩ := chg_sim r6 h3 hs
  have hn := e_note hf hs h1 h2
  have hm5 : (f + s) % 5 < 5 := Nat.mod_lt _ (by omega)
  have c0 : (cpT t (3 + (f + s) % 5) 0).1 0 = t.1 0 := if_neg (by omega)
  have hSm : Sim (mix (cpT t (3 + (f + s) % 5) 0) 0) (m.2 0) B := by
    refine Sim_lo (mix_hi _ 0) ?_
    rw [c0]; exact r7
  have hold : ∀ i, i < s → (cpT t (3 + (f + s) % 5) 0).1 (3 + (f + i) % 5) = t.1 (3 + (f + i) % 5) := fun i hi => if_neg (by omega)
  have hnew : (cpT t (3 + (f + s) % 5) 0).1 (3 + (f + s) % 5) = t.1 0 := if_pos rfl
  have c2 : (cpT t (3 + (f + s) % 5) 0).1 2 = t.1 2 := if_neg (by omega)
  rw [hn]
  simp only [Option.bind_some]
  rcases hc _ _ hSm ec rfl with ⟨v, v1, v2, v3⟩ | ⟨v, w', s', v1, v2, v3, v4, v5⟩
  · refine ⟨v, put (cpT t (3 + (f + s) % 5) 0) 0 (mix (cpT t (3 + (f + s) % 5) 0) 0), m, ?_, v3, r1, r2, r3, r4, r5, r6, Sim_mono (Nat.le_succ B) hSm, r8, ?_, f, s, hf, hs, h1, h2, h3, fun i hi => ?_⟩
    · rw [v2]
      simp only [Option.bind_some]
      rw [e_settle_err v1]
      rfl
    · refine r9.imp id (fun q => ⟨q.1, ?_⟩)
      show Sim ((cpT t (3 + (f + s) % 5) 0).1 2) (m.2 4) (B + 1)
      rw [c2]; exact Sim_mono (Nat.le_succ B) q.2
    · show Sim (if 3 + (f + i) % 5 = 0 then _ else (cpT t (3 + (f + s) % 5) 0).1 (3 + (f + i) % 5)) _ (B + 1)
      rw [if_neg (by omega), hold i hi]
      exact Sim_mono (Nat.le_succ B) (hH i hi)
  · have p1 : (put (cpT t (3 + (f + s) % 5) 0) 0 w').2.2 = t.2.2 := rfl
    have hh := hist_ok (t := t) (t1 := put (cpT t (3 + (f + s) % 5) 0) 0 w') (m := m) (m' := sG (sR (sG m 1 g) 1 (nI (if s = 4 then 4 else s + 1))) 0 s') hf hs h1 h2 hH r7 (fun i hi => ?_) ?_ b1 b2 rfl rfl
    · refine ⟨v, if s = 4 then tR (put (cpT t (3 + (f + s) % 5) 0) 0 w') 1 (nI ((f + 1) % 5)) else tR (put (cpT t (3 + (f + s) % 5) 0) 0 w') 2 (nI (s + 1)), _, ?_, v3, ?_⟩
      · rw [v2]
        simp only [Option.bind_some]
        rw [e_settle_ok (t := put (cpT t (3 + (f + s) % 5) 0) 0 w') v1.1 hf hs h1 h2]
        rfl
      · have q1 : ∀ x, x = (if s = 4 then tR (put (cpT t (3 + (f + s) % 5) 0) 0 w') 1 (nI ((f + 1) % 5)) else tR (put (cpT t (3 + (f + s) % 5) 0) 0 w') 2 (nI (s + 1))) → x.1 0 = w' ∧ x.2.1 = w' ∧ x.2.2 0 = t.2.2 0 ∧ x.1 2 = t.1 2 := by
          intro x hx
          by_cases h4 : s = 4
          · rw [if_pos h4] at hx; subst hx
            exact ⟨rfl, rfl, rfl, c2⟩
          · rw [if_neg h4] at hx; subst hx
            exact ⟨rfl, rfl, rfl, c2⟩
        obtain ⟨q2, q3, q4, q5⟩ := q1 _ rfl
        refine ⟨r1, ?_, fun j hj => ?_, r4, r5, r6, ?_, ?_, ?_, hh⟩
        · rw [q3, v5.1 0 (by omega)]; exact r2
        · rw [q3, v5.2]; exact r3 j hj
        · rw [q2, sG_2]; exact v4
        · rw [q4]; exact r8
        · rw [q4, q5]
          exact r9.imp id (fun q => ⟨q.1, Sim_mono (Nat.le_succ B) q.2⟩)
    · show (if 3 + (f + i) % 5 = 0 then _ else (cpT t (3 + (f + s) % 5) 0).1 (3 + (f + i) % 5)) = _
      rw [if_neg (by omega)]; exact hold i hi
    · show (if 3 + (f + s) % 5 = 0 then _ else (cpT t (3 + (f + s) % 5) 0).1 (3 + (f + s) % 5)) = _
      rw [if_neg (by omega)]; exact hnew
