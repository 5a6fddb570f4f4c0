/-! PURE: root, weak, ask -/
theorem careRel_sub {pt care bl before to g b g' : Int32} (h : careRel pt care bl before to g b g') : ∀ j, tb g j = true → tb g' j = true := by
  intro j q
  rcases h with ⟨_, e⟩ | ⟨_, _, ⟨_, e⟩ | ⟨_, e⟩⟩ | ⟨_, _, ⟨_, e⟩ | ⟨_, e⟩⟩
  · rw [e]; exact q
  · rw [e]; exact q
  · exact (e j).mpr (Or.inl q)
  · rw [e]; exact q
  · exact (e j).mpr (Or.inl q)
theorem reach_both {w m : St} {B : Nat} {ex rw li : List Nat} (h : SimB w (m.2 0) B ex rw li) : ∃ Q, f_X1_reachedByAll w = some (Q, w) ∧ f_X7_reached m = some (Q, m) ∧ IsCl (w.2 1) (fun j => rootS (w.2 2) j ∨ j ∈ li) noX Q ∧ ∀ j, j < 24 → tb Q j = true → tb (w.1 13) j = true := by
  obtain ⟨Q, e1, c1⟩ := e_reachedByAll h.2.2.2.2.2.2.2.2.1.1
  obtain ⟨Q', e2, c2, c3⟩ := e_reached h.2.2.1 h.2.2.2.2.2.2.2.2.2.2.1 h.2.2.2.2.2.2.2.2.1 h.2.2.2.2.2.2.2.2.2.1
  rw [IsCl_uniq c1 c2] at e1
  exact ⟨Q', e1, e2, c2, c3⟩
theorem e_isReached {Q : Int32} {m : St} (h : f_X7_reached m = some (Q, m)) {k : Nat} (hk : k < 24) : f_X7_isReached (nI k) m = some (if tb Q k then 1 else 0, m) := by
  unfold f_X7_isReached
  rw [h]
  simp only [Option.bind_some]
  cases z : tb Q k
  · rw [if_neg (fun q => by rw [(shr_1 hk).mp q] at z; cases z)]
    rfl
  · rw [if_pos ((shr_1 hk).mpr z)]
    rfl
theorem bI_sub {Q : Int32} {k : Nat} (hk : k < 24) : bI (nI k) &&& (Q ^^^ (-1)) = 0 ↔ tb Q k = true := by
  rw [bI_and hk, tb_not _ (by omega)]
  cases tb Q k <;> simp
theorem zero_and (x : Int32) : 0 &&& x = 0 := by rw [Int32.and_comm]; exact and_0 x
/-- none, an object, or neither -/
theorem obj_or (p x : Int32) : x = -1 ∨ (x ≠ -1 ∧ hasI p x = 1 ∧ ∃ k, k < 24 ∧ x = nI k ∧ tb p k = true) ∨ (x ≠ -1 ∧ hasI p x = 0) := by
  by_cases h : x = -1
  · exact Or.inl h
  · rcases hasI_iff (p := p) (x := x) with ⟨a, b⟩ | ⟨a, _⟩
    · exact Or.inr (Or.inl ⟨h, a, b⟩)
    · exact Or.inr (Or.inr ⟨h, a⟩)
theorem isI_or (x : Int32) (n : Nat) (hn : n < 2 ^ 31) : (∃ i, i < n ∧ x = nI i ∧ isI x (nI n) = 1) ∨ isI x (nI n) = 0 := by
  rcases rng x n hn with ⟨k, hk, rfl⟩ | h | ⟨h1, h2⟩
  · exact Or.inl ⟨k, hk, rfl, isI_inN hn hk⟩
  · exact Or.inr (isI_neg h)
  · exact Or.inr (isI_big h2)
theorem root_done {w w' : St} {s' : Nat → Int32} {B i : Nat} {rw' li : List Nat} {to : Int32} (hC : gCol (w.1 15) (w.1 16) (w.1 17) (w.1 10) (w.1 13) (w.1 18) (w.2 1) (w.2 2) (w.2 3) li) (hS : SimB w' s' B [] rw' li) (hc : careRel (w.1 15) (w.1 10) 1 (w.2 2 i) to (w.1 16) (w.1 17) (w'.1 16)) (hX : sameR i to w w')
    (h2 : w.1 15 = 1 ∨ w.1 15 = 2 → w.1 10 = 2 → ∀ k, k < 24 → to = nI k → safe (w.1 10) (w.1 16) (w.1 17) (w.2 1) k) (h3 : w.1 15 = 3 → ∀ f, f ≤ 24 → w.1 18 = nI f → ∀ k, k < 24 → to = nI k → kept (w.1 17) f k) : Sim w' s' B ∧ sf w w' := by
  refine ⟨⟨rw', li, hS, ?_⟩, fun r hr => hX.1 r (by omega) (by omega), hX.2.2 0 (by decide) (by decide)⟩
  have := col_root hC rfl hc h2 h3
  rw [← hX.1 15 (by decide) (by decide), ← hX.1 17 (by decide) (by decide), ← hX.1 10 (by decide) (by decide), ← hX.1 13 (by decide) (by decide), ← hX.1 18 (by decide) (by decide), ← hX.2.1, ← hX.2.2 1 (by decide) (by decide), ← hX.2.2 3 (by decide) (by decide)] at this
  exact this
theorem to_safe {w : St} {s : Nat → Int32} {B : Nat} {rw li : List Nat} {Q to : Int32} (h : SimL w s B rw li) (hQ : IsCl (w.2 1) (fun j => rootS (w.2 2) j ∨ j ∈ li) noX Q) (ht : ∀ k, k < 24 → to = nI k → tb Q k = true) : w.1 15 = 1 ∨ w.1 15 = 2 → w.1 10 = 2 → ∀ k, k < 24 → to = nI k → safe (w.1 10) (w.1 16) (w.1 17) (w.2 1) k := by
  intro h1 h2 k hk e
  have hM := h.2.2.1 h1
  rw [h2] at hM ⊢
  exact reach_safe hM hQ hk (ht k hk e)
theorem to_kept {w : St} {s : Nat → Int32} {B : Nat} {rw li : List Nat} {Q to : Int32} (h : SimL w s B rw li) (hp : ∀ j, j < 24 → tb Q j = true → tb (w.1 13) j = true) (hQ : IsCl (w.2 1) (fun j => rootS (w.2 2) j ∨ j ∈ li) noX Q) (ht : ∀ k, k < 24 → to = nI k → tb Q k = true) : w.1 15 = 3 → ∀ f, f ≤ 24 → w.1 18 = nI f → ∀ k, k < 24 → to = nI k → kept (w.1 17) f k := by
  intro h1 f hf hfr k hk e
  exact reach_kept (h.2.2.2 h1 f hf hfr) hp hQ hk (ht k hk e)
theorem root_step {w m m' : St} {B : Nat} (h : Sim w (m.2 0) B) (hc : f_X7_changes m = some (0, m')) (h0 : m'.2 0 = m.2 0) (x y : Int32) : ChS w m m' B (f_X5_writeRoot x y w) (f_X7_root x y m) := by
  obtain ⟨rw, li, hS⟩ := h
  have hP := hS.1.2.1
  obtain ⟨Q, e1, e2, c1, c2⟩ := reach_both hS.1
  have core : ∀ i, i < 4 → x = nI i → okr (w.1 13) y → (∀ k, k < 24 → y = nI k → tb Q k = true) → ∃ w' s', f_X5_referRoot (nI i) y w = some (0, w') ∧ f_X7_writesRoot (nI i) y m' = some (w.2 2 i, sG m' 0 s') ∧ Sim w' s' B ∧ sf w w' := by
    intro i hi _ hy hQ
    obtain ⟨w', s', rw', a1, a2, a3, a4, a5⟩ := refer_sim (m := m') (by rw [h0]; exact hS.1) hi hy
    exact ⟨w', s', a1, a2, root_done hS.2 a3 a4 a5 (to_safe hS c1 hQ) (to_kept hS c2 c1 hQ)⟩
  rcases isI_or x 4 (by omega) with ⟨i, hi, rfl, hin⟩ | hin
  · have hin' : isI (nI i) 4 = 1 := hin
    have hv := (hS.1.2.2.2.2.2.2.2.2.2.2.1 i hi).1
    rcases obj_or (w.1 13) y with rfl | ⟨y1, y2, k, hk, rfl, hp⟩ | ⟨y1, y2⟩
    · obtain ⟨w', s', a1, a2, a3, a4⟩ := core i hi rfl (Or.inl rfl) (fun k hk e => absurd e.symm (nI_ne_m1 (by omega)))
      refine Or.inr ⟨w.2 2 i, w', s', ok_okr hv, ?_, ?_, Sim_mono (Nat.le_succ B) a3, a4⟩
      · unfold f_X5_writeRoot
        simp only [e_isIn, hin', Option.bind_some, oz, if_false, e_hasOrNone, if_true, e_bit, bI_m1, e1, zero_and, e_rootAt hi, a1]
      · unfold f_X7_root
        simp only [e_isRoot, hin', Option.bind_some, oz, if_false, if_true, hc, a2]
        rw [if_pos (by decide)]
    · by_cases hq : tb Q k = true
      · obtain ⟨w', s', a1, a2, a3, a4⟩ := core i hi rfl (Or.inr ⟨k, hk, rfl, hp⟩) (fun k' hk' e => by rw [← nI_inj (by omega) (by omega) e]; exact hq)
        refine Or.inr ⟨w.2 2 i, w', s', ok_okr hv, ?_, ?_, Sim_mono (Nat.le_succ B) a3, a4⟩
        · unfold f_X5_writeRoot
          simp only [e_isIn, hin', Option.bind_some, oz, if_false, e_hasOrNone, y1, y2, e_bit, e1, (bI_sub hk).mpr hq, if_true, e_rootAt hi, a1]
        · unfold f_X7_root
          have hn0 : ¬ nI k < 0 := nI_pos (by omega)
          simp only [e_isRoot, hin', Option.bind_some, oz, if_false, y1, e_isObject hP, y2, hn0, e_isReached e2 hk, hq, if_true, hc, a2]
      · refine Or.inl ⟨-12, no_12, ?_, ?_⟩
        · unfold f_X5_writeRoot
          have hz : ¬ bI (nI k) &&& (Q ^^^ (-1)) = 0 := fun q => hq ((bI_sub hk).mp q)
          simp only [e_isIn, hin', Option.bind_some, oz, if_false, e_hasOrNone, y1, y2, e_bit, e1, hz]
        · unfold f_X7_root
          have hn0 : ¬ nI k < 0 := nI_pos (by omega)
          simp only [e_isRoot, hin', Option.bind_some, oz, if_false, y1, e_isObject hP, y2, hn0, e_isReached e2 hk, hq, Bool.false_eq_true, if_true]
    · refine Or.inl ⟨-11, no_11, ?_, ?_⟩
      · unfold f_X5_writeRoot
        simp only [e_isIn, hin', Option.bind_some, oz, if_false, e_hasOrNone, y1, y2, if_true]
      · unfold f_X7_root
        simp only [e_isRoot, hin', Option.bind_some, oz, if_false, y1, e_isObject hP, y2, if_true]
  · have hin' : isI x 4 = 0 := hin
    refine Or.inl ⟨-11, no_11, ?_, ?_⟩
    · unfold f_X5_writeRoot
      simp only [e_isIn, hin', Option.bind_some, if_true]
    · unfold f_X7_root
      simp only [e_isRoot, hin', Option.bind_some, if_true]
theorem holder_done {w : St} {s' : Nat → Int32} {B i : Nat} {rw li : List Nat} {to : Int32} (hC : gCol (w.1 15) (w.1 16) (w.1 17) (w.1 10) (w.1 13) (w.1 18) (w.2 1) (w.2 2) (w.2 3) li) (hS : SimB (sG w 3 (upd (w.2 3) i to)) s' B [] rw li)
    (h3 : w.1 15 = 3 → ∀ f, f ≤ 24 → w.1 18 = nI f → ∀ k, k < 24 → to = nI k → kept (w.1 17) f k) : Sim (sG w 3 (upd (w.2 3) i to)) s' B ∧ sf w (sG w 3 (upd (w.2 3) i to)) :=
  ⟨⟨rw, li, hS, hC.1, hC.2.1, fun q f hf hfr => gK3_holder (hC.2.2 q f hf hfr) (h3 q f hf hfr)⟩, fun _ _ => rfl, rfl⟩
theorem weak_step {w m m' : St} {B : Nat} (h : Sim w (m.2 0) B) (hc : f_X7_changes m = some (0, m')) (h0 : m'.2 0 = m.2 0) (x y : Int32) : ChS w m m' B (f_X5_writeHolder x y w) (f_X7_weak x y m) := by
  obtain ⟨rw, li, hS⟩ := h
  have hP := hS.1.2.1
  obtain ⟨Q, e1, e2, c1, c2⟩ := reach_both hS.1
  have core : ∀ i, i < 4 → okr (w.1 13) y → (∀ k, k < 24 → y = nI k → tb Q k = true) → Sim (sG w 3 (upd (w.2 3) i y)) (upd (m.2 0) (222 + i) y) B ∧ sf w (sG w 3 (upd (w.2 3) i y)) := by
    intro i hi hy hQ
    exact holder_done hS.2 (holder_set hS.1 hi hy) (to_kept hS c2 c1 hQ)
  rcases isI_or x 4 (by omega) with ⟨i, hi, rfl, hin⟩ | hin
  · have hin' : isI (nI i) 4 = 1 := hin
    obtain ⟨hv, hv2⟩ := hS.1.2.2.2.2.2.2.2.2.2.2.2.1 i hi
    have hv3 : m'.2 0 (222 + i) = w.2 3 i := by rw [h0]; exact hv2
    have h235 : 222 + i < 235 := by omega
    rcases obj_or (w.1 13) y with rfl | ⟨y1, y2, k, hk, rfl, hp⟩ | ⟨y1, y2⟩
    · obtain ⟨a3, a4⟩ := core i hi (Or.inl rfl) (fun k hk e => absurd e.symm (nI_ne_m1 (by omega)))
      refine Or.inr ⟨w.2 3 i, _, upd (m.2 0) (222 + i) (-1), ok_okr hv, ?_, ?_, Sim_mono (Nat.le_succ B) a3, a4⟩
      · unfold f_X5_writeHolder
        simp (disch := omega) only [e_isIn, hin', Option.bind_some, oz, if_false, e_hasOrNone, if_true, e_bit, bI_m1, e1, zero_and, e_holderAt hi, ibN, clN, hi, sA]
      · unfold f_X7_weak
        simp only [e_isRoot, hin', Option.bind_some, oz, if_false, if_true, hc]
        rw [if_pos (by decide)]
        simp (disch := omega) only [addL, ibN, clN, h235, if_true, hv3, sA, h0]
    · have hn0 : ¬ nI k < 0 := nI_pos (by omega)
      by_cases hq : tb Q k = true
      · obtain ⟨a3, a4⟩ := core i hi (Or.inr ⟨k, hk, rfl, hp⟩) (fun k' hk' e => by rw [← nI_inj (by omega) (by omega) e]; exact hq)
        refine Or.inr ⟨w.2 3 i, _, upd (m.2 0) (222 + i) (nI k), ok_okr hv, ?_, ?_, Sim_mono (Nat.le_succ B) a3, a4⟩
        · unfold f_X5_writeHolder
          simp (disch := omega) only [e_isIn, hin', Option.bind_some, oz, if_false, e_hasOrNone, y1, y2, e_bit, e1, (bI_sub hk).mpr hq, if_true, e_holderAt hi, ibN, clN, hi, sA]
        · unfold f_X7_weak
          simp (disch := omega) only [e_isRoot, hin', Option.bind_some, oz, if_false, y1, e_isObject hP, y2, hn0, e_isReached e2 hk, hq, if_true, hc, addL, ibN, clN, h235, hv3, sA, h0]
      · refine Or.inl ⟨-12, no_12, ?_, ?_⟩
        · unfold f_X5_writeHolder
          have hz : ¬ bI (nI k) &&& (Q ^^^ (-1)) = 0 := fun q => hq ((bI_sub hk).mp q)
          simp only [e_isIn, hin', Option.bind_some, oz, if_false, e_hasOrNone, y1, y2, e_bit, e1, hz]
        · unfold f_X7_weak
          simp only [e_isRoot, hin', Option.bind_some, oz, if_false, y1, e_isObject hP, y2, hn0, e_isReached e2 hk, hq, Bool.false_eq_true, if_true]
    · refine Or.inl ⟨-11, no_11, ?_, ?_⟩
      · unfold f_X5_writeHolder
        simp only [e_isIn, hin', Option.bind_some, oz, if_false, e_hasOrNone, y1, y2, if_true]
      · unfold f_X7_weak
        simp only [e_isRoot, hin', Option.bind_some, oz, if_false, y1, e_isObject hP, y2, if_true]
  · have hin' : isI x 4 = 0 := hin
    refine Or.inl ⟨-11, no_11, ?_, ?_⟩
    · unfold f_X5_writeHolder
      simp only [e_isIn, hin', Option.bind_some, if_true]
    · unfold f_X7_weak
      simp only [e_isRoot, hin', Option.bind_some, if_true]
