/-! PURE: changes in lockstep: an error leaves both as they were; any other answer is behind `changes` -/
def okv (v : Int32) : Prop := (-11 : Int32) < v ∧ ¬ v < -1
def ChS (w m m' : St) (B : Nat) (c mo : Option (Int32 × St)) : Prop :=
  (∃ v, ¬ (-11 : Int32) < v ∧ c = some (v, w) ∧ mo = some (v, m)) ∨ ∃ v w' s', okv v ∧ c = some (v, w') ∧ mo = some (v, sG m' 0 s') ∧ Sim w' s' (B + 1) ∧ sf w w'
theorem SimB_mono {w : St} {s : Nat → Int32} {B B' : Nat} {ex rw li : List Nat} (hB : B ≤ B') (h : SimB w s B ex rw li) : SimB w s B' ex rw li := by
  obtain ⟨hA, hP, hF, hW, hCo, hE, hRw, hG, hLi, hO, hR, hH, hN, i1, i2, i3, n, q1, q2⟩ := h
  exact ⟨hA, hP, hF, hW, hCo, hE, hRw, hG, hLi, hO, hR, hH, hN, i1, i2, i3, n, by omega, q2⟩
theorem Sim_mono {w : St} {s : Nat → Int32} {B B' : Nat} (hB : B ≤ B') (h : Sim w s B) : Sim w s B' := by
  obtain ⟨rw, li, h1, h2⟩ := h
  exact ⟨rw, li, SimB_mono hB h1, h2⟩
theorem ok_nI1 {n : Nat} (h : n < 2147483648) : (-11 : Int32) < nI n := by
  have h1 : (-11 : Int32).toInt < 0 := by decide
  rw [Int32.lt_iff_toInt_lt, show (nI n).toInt = (n : Int) from Int32.toInt_ofNat_of_lt (by omega)]
  omega
theorem ok_nI {n : Nat} (h : n < 2147483648) : okv (nI n) := ⟨ok_nI1 h, fun q => nI_pos h (Int32.lt_trans q (by decide))⟩
theorem ok_m1 : okv (-1) := ⟨by decide, by decide⟩
theorem ok_okr {p v : Int32} (h : okr p v) : okv v := by
  rcases h with rfl | ⟨k, hk, rfl, _⟩
  · exact ok_m1
  · exact ok_nI (by omega)
theorem no_11 : ¬ (-11 : Int32) < -11 := by decide
theorem no_12 : ¬ (-11 : Int32) < -12 := by decide
theorem no_13 : ¬ (-11 : Int32) < -13 := by decide
theorem no_14 : ¬ (-11 : Int32) < -14 := by decide
theorem part_m {w m : St} {B : Nat} {ex rw li : List Nat} (h : SimB w (m.2 0) B ex rw li) : m.2 0 (226 : Int32).toNatClampNeg = w.1 15 := h.2.2.2.2.2.2.2.2.2.2.2.2.1.1
theorem set_step {w m m' : St} {B : Nat} (h : Sim w (m.2 0) B) (hc : f_X7_changes m = some (0, m')) (h0 : m'.2 0 = m.2 0) (x : Int32) : ChS w m m' B (f_X5_setCare x w) (f_X7_set x m) := by
  obtain ⟨rw, li, hS, hC⟩ := h
  have hI := hS.2.2.2.2.2.2.2.2.2.2.2.2.2
  have hN := hS.2.2.2.2.2.2.2.2.2.2.2.2.1
  have cls : (x = 1 ∨ x = 2) → f_X5_setCare x w = if w.1 15 = 0 then some (w.1 10, sR w 10 x) else some (-12, w) := by
    intro hx
    unfold f_X5_setCare
    by_cases hp : w.1 15 = 0 <;> rcases hx with rfl | rfl <;> simp only [e_isThere, hp, if_true, if_false, Option.bind_some, oz] <;> rfl
  by_cases hx : x = 1 ∨ x = 2
  · have hin : inI x 1 2 = 1 := by rcases hx with rfl | rfl <;> decide
    by_cases hp : w.1 15 = 0
    · refine Or.inr ⟨w.1 10, sR w 10 x, upd (m'.2 0) 234 x, ?_, ?_, ?_, ⟨rw, li, SimB_mono (Nat.le_succ B) (set_10 (by rw [h0]; exact hS) x hx), ?_⟩, fun r hr => ?_, rfl⟩
      · rcases hI.2.1 with q | q <;> rw [q] <;> exact ⟨by decide, by decide⟩
      · rw [cls hx, if_pos hp]
      · unfold f_X7_set
        have h234 : m'.2 0 (234 : Int32).toNatClampNeg = w.1 10 := by rw [h0]; exact hN.2.2.2.2.2.2.2.2
        rw [e_in, hin]
        simp only [Option.bind_some, oz, if_false]
        rw [if_pos ib226, part_m hS, if_neg (fun q => ((part_pos hI).mp q) hp), hc]
        simp only [Option.bind_some]
        rw [if_pos ib234, if_pos ib234, h234]
        simp only [sA, c234]
      · exact ⟨hC.1, fun q => absurd (show (0 : Int32) = 1 ∨ (0 : Int32) = 2 by rw [← hp]; exact q) (by decide), fun q => absurd (show (0 : Int32) = 3 from hp.symm.trans q) (by decide)⟩
      · show (if r = 10 then _ else w.1 r) = w.1 r
        rw [if_neg (by omega)]
    · refine Or.inl ⟨-12, no_12, ?_, ?_⟩
      · rw [cls hx, if_neg hp]
      · unfold f_X7_set
        rw [e_in, hin]
        simp only [Option.bind_some, oz, if_false]
        rw [if_pos ib226, part_m hS, if_pos ((part_pos hI).mpr hp)]
  · have hin : inI x 1 2 = 0 := by
      unfold inI
      by_cases h1 : x < 1
      · rw [if_pos h1]
      · rw [if_neg h1]
        by_cases h2 : 2 < x
        · rw [if_pos h2]
        · exfalso
          apply hx
          rw [Int32.lt_iff_toInt_lt] at h1 h2
          have e1 : (1 : Int32).toInt = 1 := by decide
          have e2 : (2 : Int32).toInt = 2 := by decide
          have : x.toInt = 1 ∨ x.toInt = 2 := by omega
          rcases this with q | q
          · exact Or.inl (Int32.toInt_inj.mp (q.trans e1.symm))
          · exact Or.inr (Int32.toInt_inj.mp (q.trans e2.symm))
    refine Or.inl ⟨-11, no_11, ?_, ?_⟩
    · unfold f_X5_setCare
      rw [if_neg (fun q => hx (Or.inl q)), if_neg (fun q => hx (Or.inr q))]
    · unfold f_X7_set
      rw [e_in, hin]
      rfl
theorem begin_step {w m m' : St} {B : Nat} (h : Sim w (m.2 0) B) (hc : f_X7_changes m = some (0, m')) (h0 : m'.2 0 = m.2 0) : ChS w m m' B (f_X5_beginSearch w) (f_X7_begin m) := by
  obtain ⟨rw, li, hS, hC⟩ := h
  have hI := hS.2.2.2.2.2.2.2.2.2.2.2.2.2
  by_cases hp : w.1 15 = 0
  · obtain ⟨w', s', rw', e1, e2, a1, a2, a3, a4⟩ := open_sim (m := m') (by rw [h0]; exact ⟨hS, hC⟩) hp
    have hl := a1.1.2.2.2.2.2.2.1
    refine Or.inr ⟨w'.1 24, w', s', ?_, ?_, ?_, ⟨rw', li, a1⟩, a4⟩
    · rw [hl.1.1]; exact ok_nI (by have := hl.1.2.1; omega)
    · unfold f_X5_beginSearch
      rw [e_isThere, if_pos hp]
      simp only [Option.bind_some, if_true, e1]
    · unfold f_X7_begin
      rw [if_pos ib226, part_m hS, if_neg (fun q => ((part_pos hI).mp q) hp), hc]
      simp only [Option.bind_some, e2]
      rw [if_pos ib168, c168, sG_2, hl.2.1]
  · refine Or.inl ⟨-12, no_12, ?_, ?_⟩
    · unfold f_X5_beginSearch
      rw [e_isThere, if_neg hp]
      rfl
    · unfold f_X7_begin
      rw [if_pos ib226, part_m hS, if_pos ((part_pos hI).mpr hp)]
theorem all_step {w m m' : St} {B : Nat} (h : Sim w (m.2 0) B) (hc : f_X7_changes m = some (0, m')) (h0 : m'.2 0 = m.2 0) : ChS w m m' B (f_X5_doAllSteps w) (f_X7_all m) := by
  obtain ⟨j, w', s', hj, e1, e2, a1, a2⟩ := doAll_sim (m := m') (by rw [h0]; exact h)
  refine Or.inr ⟨nI j, w', s', ok_nI (by omega), e1, ?_, a1, a2⟩
  unfold f_X7_all
  rw [hc]
  simp only [Option.bind_some, e2]
theorem step_step {w m m' : St} {B : Nat} (h : Sim w (m.2 0) B) (hc : f_X7_changes m = some (0, m')) (h0 : m'.2 0 = m.2 0) (x : Int32) : ChS w m m' B (f_X5_doSteps x w) (f_X7_step x m) := by
  have hS := h
  obtain ⟨rw, li, hS, hC⟩ := hS
  have ib230 : ib 230 235 := by decide
  have c230 : (230 : Int32).toNatClampNeg = 230 := by decide
  rcases rng x 100 (by omega) with ⟨k, hk, rfl⟩ | hx | ⟨h1, h2⟩
  · by_cases hk0 : k = 0
    · subst hk0
      refine Or.inl ⟨-11, no_11, ?_, ?_⟩
      · unfold f_X5_doSteps
        rw [if_pos (by decide)]
      · unfold f_X7_step
        rw [e_in, show inI (nI 0) 1 99 = 0 by decide]
        rfl
    · have hin : inI (nI k) 1 99 = 1 := by
        unfold inI
        rw [if_neg (fun q => by have := (nI_ltI (b := 1) (by omega) (by omega)).mp q; omega), if_neg (fun q => by have := (nI_ltI (a := 99) (by omega) (by omega)).mp q; omega)]
      by_cases hp : w.1 15 = 0
      · refine Or.inl ⟨-12, no_12, ?_, ?_⟩
        · unfold f_X5_doSteps
          rw [if_neg (fun q => by have := (nI_ltI (b := 1) (by omega) (by omega)).mp q; omega), if_neg (fun q => by have := (nI_ltI (a := 99) (by omega) (by omega)).mp q; omega), e_isThere, if_pos hp]
          rfl
        · unfold f_X7_step
          rw [e_in, hin]
          simp only [Option.bind_some, oz, if_false]
          rw [if_pos ib226, part_m hS, if_pos hp]
      · obtain ⟨d, w', s', hd, e1, e2, e3, a1, a2⟩ := doSteps_sim (m := m') hk (by omega) (by rw [h0]; exact h) hp (m'.2 0 (230 : Int32).toNatClampNeg)
        refine Or.inr ⟨nI d, w', s', ok_nI (by omega), e1, ?_, Sim_mono (Nat.le_succ B) a1, a2⟩
        unfold f_X7_step
        rw [e_in, hin]
        simp only [Option.bind_some, oz, if_false]
        rw [if_pos ib226, part_m hS, if_neg hp, hc]
        simp only [Option.bind_some]
        rw [if_pos ib230, e2]
        simp only [Option.bind_some]
        rw [if_pos ib230, c230, sG_2, e3]
  · refine Or.inl ⟨-11, no_11, ?_, ?_⟩
    · unfold f_X5_doSteps
      rw [if_pos (Int32.lt_trans hx (by decide))]
    · unfold f_X7_step
      rw [e_in, show inI x 1 99 = 0 by unfold inI; rw [if_pos (Int32.lt_trans hx (by decide))]]
      rfl
  · have hb : (99 : Int32) < x := by
      rw [Int32.lt_iff_toInt_lt] at h2 ⊢
      have e1 : (nI 100).toInt = 100 := by decide
      have e2 : (99 : Int32).toInt = 99 := by decide
      omega
    have hl : ¬ x < 1 := by
      intro q
      rw [Int32.lt_iff_toInt_lt] at q hb
      have e1 : (1 : Int32).toInt = 1 := by decide
      have e2 : (99 : Int32).toInt = 99 := by decide
      omega
    refine Or.inl ⟨-11, no_11, ?_, ?_⟩
    · unfold f_X5_doSteps
      rw [if_neg hl, if_pos hb]
    · unfold f_X7_step
      rw [e_in, show inI x 1 99 = 0 by unfold inI; rw [if_neg hl, if_pos hb]]
      rfl
