/-! PURE: ask, finish -/
theorem need_sim {w m : St} {B : Nat} {ex rw li : List Nat} (h : SimB w (m.2 0) B ex rw li) {v : Int32} (hv : okr (w.1 13) v) : ∃ w' s' rw', f_X5_shadeIfCareIsNeeded v w = some (0, w') ∧ ((ndI (w.1 15) = 0 ∧ sG m 0 s' = m) ∨ (¬ ndI (w.1 15) = 0 ∧ f_X7_shades v m = some (0, sG m 0 s'))) ∧ SimB w' s' B ex rw' li ∧ (¬ (w.1 15 = 1 ∨ w.1 15 = 2) → w'.1 16 = w.1 16) ∧ (w.1 15 = 1 ∨ w.1 15 = 2 → shadeRel v (w.1 16) (w.1 17) (w'.1 16)) ∧ sameX w w' := by
  by_cases hz : ndI (w.1 15) = 0
  · refine ⟨w, m.2 0, rw, ?_, Or.inl ⟨hz, sG_self m 0⟩, h, fun _ => rfl, fun q => absurd q (ndI_0.mp hz), sameX.rf w⟩
    unfold f_X5_shadeIfCareIsNeeded
    rw [e_needs]
    simp only [Option.bind_some, hz, if_true]
  · obtain ⟨w', s', rw', e1, e2, a1, a2, a3⟩ := shade_sim h hv
    refine ⟨w', s', rw', ?_, Or.inr ⟨hz, e2⟩, a1, fun q => absurd (ndI_0.mpr q) hz, fun _ => a2, a3⟩
    unfold f_X5_shadeIfCareIsNeeded
    rw [e_needs]
    simp only [Option.bind_some, hz, if_false, e1]
theorem sR_comm (w : St) {a b : Nat} (h : a ≠ b) (u v : Int32) : sR (sR w a u) b v = sR (sR w b v) a u := by
  unfold sR
  refine Prod.ext ?_ rfl
  funext j
  show (if j = b then v else if j = a then u else w.1 j) = if j = a then u else if j = b then v else w.1 j
  by_cases e : j = b
  · rw [if_pos e, if_neg (fun q => h (q.symm.trans e)), if_pos e]
  · rw [if_neg e, if_neg e]
def up12 (v : Int32) (o : Int32 × St) : Int32 × St := (o.1, sR o.2 12 v)
theorem cm_shade (x v : Int32) (w w' : St) (h : f_X4_shade x w = some (0, w')) : f_X4_shade x (sR w 12 v) = some (0, sR w' 12 v) := by
  unfold f_X4_shade at h ⊢
  rw [e_bit] at h ⊢
  simp only [Option.bind_some] at h ⊢
  have h16 : (sR w 12 v).1 16 = w.1 16 := rfl
  have h17 : (sR w 12 v).1 17 = w.1 17 := rfl
  rw [h16, h17]
  by_cases h1 : bI x = 0
  · rw [if_pos h1] at h ⊢
    injection h with h; injection h with _ h; rw [h]
  · rw [if_neg h1] at h ⊢
    by_cases h2 : (w.1 16 ||| w.1 17) &&& bI x = 0
    · rw [if_pos h2] at h ⊢
      rw [sR_comm w (by decide : (12 : Nat) ≠ 16)]
      unfold f_X3_append_6 at h ⊢
      have h24 : (sR (sR w 16 (w.1 16 ||| bI x)) 12 v).1 24 = (sR w 16 (w.1 16 ||| bI x)).1 24 := rfl
      rw [h24]
      generalize sR w 16 (w.1 16 ||| bI x) = z at h ⊢
      by_cases h3 : z.1 24 < 24
      · rw [if_pos h3] at h ⊢
        by_cases h4 : ib (z.1 24) 24
        · simp only [if_pos h4, Option.bind_some] at h ⊢
          injection h with h; injection h with _ h; rw [← h]
          refine congrArg (fun q => some ((0 : Int32), q)) ?_
          exact (sR_comm (sA z 5 (z.1 24) x) (by decide : (24 : Nat) ≠ 12) _ v).symm
        · simp only [if_neg h4, Option.bind_none] at h
          cases h
      · rw [if_neg h3] at h ⊢
        simp only [Option.bind_some] at h ⊢
        injection h with h; injection h with _ h; rw [h]
    · rw [if_neg h2] at h ⊢
      injection h with h; injection h with _ h; rw [h]
theorem bind_00 {o : Option (Int32 × St)} {w' : St} (h : (o.bind fun o6 => some ((0 : Int32), o6.2)) = some (0, w')) : ∃ a, o = some (a, w') := by
  cases o with
  | none => cases h
  | some q =>
    simp only [Option.bind_some] at h
    injection h with h; injection h with _ h
    exact ⟨q.1, by rw [← h]⟩
theorem shade_ans {x a : Int32} {w w' : St} (h : f_X4_shade x w = some (a, w')) : a = 0 := by
  unfold f_X4_shade at h
  rw [e_bit] at h
  simp only [Option.bind_some] at h
  split at h
  · injection h with h; injection h with h _; exact h.symm
  · split at h
    · revert h
      generalize f_X3_append_6 x (sR w 16 (w.1 16 ||| bI x)) = o
      intro h
      cases o with
      | none => cases h
      | some q => simp only [Option.bind_some] at h; injection h with h; injection h with h _; exact h.symm
    · injection h with h; injection h with h _; exact h.symm
theorem cm_care (x1 x2 x3 v : Int32) (w w' : St) (h : f_X5_takeCare x1 x2 x3 w = some (0, w')) : f_X5_takeCare x1 x2 x3 (sR w 12 v) = some (0, sR w' 12 v) := by
  unfold f_X5_takeCare at h ⊢
  rw [e_needs] at h ⊢
  simp only [Option.bind_some] at h ⊢
  have h15 : (sR w 12 v).1 15 = w.1 15 := rfl
  have h10 : (sR w 12 v).1 10 = w.1 10 := rfl
  rw [h15, h10]
  by_cases h1 : ndI (w.1 15) = 0
  · rw [if_pos h1] at h ⊢
    injection h with h; injection h with _ h; rw [h]
  · rw [if_neg h1] at h ⊢
    by_cases h2 : w.1 10 = 1
    · rw [if_pos h2] at h ⊢
      by_cases h3 : x1 = 0
      · rw [if_pos h3] at h ⊢
        injection h with h; injection h with _ h; rw [h]
      · rw [if_neg h3] at h ⊢
        obtain ⟨a, e⟩ := bind_00 h
        have := shade_ans e
        subst this
        rw [cm_shade x3 v w w' e]
        rfl
    · rw [if_neg h2] at h ⊢
      by_cases h3 : x2 = x3
      · rw [if_pos h3] at h ⊢
        injection h with h; injection h with _ h; rw [h]
      · rw [if_neg h3] at h ⊢
        obtain ⟨a, e⟩ := bind_00 h
        have := shade_ans e
        subst this
        rw [cm_shade x2 v w w' e]
        rfl
theorem cm_need (x v : Int32) (w w' : St) (h : f_X5_shadeIfCareIsNeeded x w = some (0, w')) : f_X5_shadeIfCareIsNeeded x (sR w 12 v) = some (0, sR w' 12 v) := by
  unfold f_X5_shadeIfCareIsNeeded at h ⊢
  rw [e_needs] at h ⊢
  simp only [Option.bind_some] at h ⊢
  have h15 : (sR w 12 v).1 15 = w.1 15 := rfl
  rw [h15]
  by_cases h1 : ndI (w.1 15) = 0
  · rw [if_pos h1] at h ⊢
    injection h with h; injection h with _ h; rw [h]
  · rw [if_neg h1] at h ⊢
    obtain ⟨a, e⟩ := bind_00 h
    have := shade_ans e
    subst this
    rw [cm_shade x v w w' e]
    rfl
theorem take_ans {x1 x2 x3 a : Int32} {w w' : St} (h : f_X5_takeCare x1 x2 x3 w = some (a, w')) : a = 0 := by
  unfold f_X5_takeCare at h
  rw [e_needs] at h
  simp only [Option.bind_some] at h
  split at h
  · injection h with h; injection h with h _; exact h.symm
  · split at h
    · split at h
      · injection h with h; injection h with h _; exact h.symm
      · revert h
        generalize f_X4_shade x3 w = o
        intro h
        cases o with
        | none => cases h
        | some q => simp only [Option.bind_some] at h; injection h with h; injection h with h _; exact h.symm
    · split at h
      · injection h with h; injection h with h _; exact h.symm
      · revert h
        generalize f_X4_shade x2 w = o
        intro h
        cases o with
        | none => cases h
        | some q => simp only [Option.bind_some] at h; injection h with h; injection h with h _; exact h.symm
theorem cm_refer {i : Nat} (hi : i < 4) (y v : Int32) (w w' : St) (h : f_X5_referRoot (nI i) y w = some (0, w')) : f_X5_referRoot (nI i) y (sR w 12 v) = some (0, sR w' 12 v) := by
  have hin : isI (nI i) 4 = 1 := isI_in (by omega) (by omega)
  unfold f_X5_referRoot at h ⊢
  rw [e_isIn, hin] at h ⊢
  simp (disch := omega) only [Option.bind_some, oz, if_false, ibN, clN, hi, if_true, sA] at h ⊢
  have e1 : sG (sR w 12 v) 2 (upd ((sR w 12 v).2 2) i y) = sR (sG w 2 (upd (w.2 2) i y)) 12 v := rfl
  have e2 : (sR w 12 v).2 2 i = w.2 2 i := rfl
  rw [e1, e2]
  obtain ⟨a, e⟩ := bind_00 h
  have := take_ans e
  subst this
  rw [cm_care _ _ _ v _ w' e]
  rfl
theorem shades_ok {w : St} {m : St} {B : Nat} {ex rw li : List Nat} (h : SimB w (m.2 0) B ex rw li) : f_X7_isMarking m = some (ndI (w.1 15), m) := by
  have h226 : m.2 0 226 = w.1 15 := h.2.2.2.2.2.2.2.2.2.2.2.2.1.1
  rw [e_isMarking, h226]
/-- behind root and shade, for an object that is kept -/
theorem ask_done {w w1 w2 : St} {s2 : Nat → Int32} {B j k : Nat} {rw2 li : List Nat} (hC : gCol (w.1 15) (w.1 16) (w.1 17) (w.1 10) (w.1 13) (w.1 18) (w.2 1) (w.2 2) (w.2 3) li) (hS : SimB w2 s2 B [] rw2 li) (hk : k < 24)
    (hc : careRel (w.1 15) (w.1 10) 1 (w.2 2 j) (nI k) (w.1 16) (w.1 17) (w1.1 16)) (hX : sameR j (nI k) w w1)
    (hn : ¬ (w1.1 15 = 1 ∨ w1.1 15 = 2) → w2.1 16 = w1.1 16) (hr : w1.1 15 = 1 ∨ w1.1 15 = 2 → shadeRel (nI k) (w1.1 16) (w1.1 17) (w2.1 16)) (hX2 : sameX w1 w2)
    (h3 : w.1 15 = 3 → ∀ f, f ≤ 24 → w.1 18 = nI f → kept (w.1 17) f k) : Sim w2 s2 B ∧ sf w w2 := by
  have p15 : w1.1 15 = w.1 15 := hX.1 15 (by decide) (by decide)
  have p17 : w1.1 17 = w.1 17 := hX.1 17 (by decide) (by decide)
  have fr : ∀ r, r ≠ 16 → r ≠ 24 → w2.1 r = w.1 r := fun r a b => (hX2.1 r a b).trans (hX.1 r a b)
  refine ⟨⟨rw2, li, hS, ?_⟩, fun r hr => fr r (by omega) (by omega), (hX2.2 0 (by decide)).trans (hX.2.2 0 (by decide) (by decide))⟩
  rw [fr 15 (by decide) (by decide), fr 17 (by decide) (by decide), fr 10 (by decide) (by decide), fr 13 (by decide) (by decide), fr 18 (by decide) (by decide), hX2.2 1 (by decide), hX.2.2 1 (by decide) (by decide), hX2.2 2 (by decide), hX.2.1, hX2.2 3 (by decide), hX.2.2 3 (by decide) (by decide)]
  have nog : ¬ (w.1 15 = 1 ∨ w.1 15 = 2) → w2.1 16 = w.1 16 := by
    intro q
    rw [hn (by rw [p15]; exact q)]
    rcases hc with ⟨_, e⟩ | ⟨z, _⟩ | ⟨z, _⟩
    · exact e
    · exact absurd z q
    · exact absurd z q
  refine ⟨fun q => ?_, fun q => ?_, fun q f hf hfr => ?_⟩
  · rw [nog (by rw [q]; decide)]
    exact hC.1 q
  · have hr' := hr (by rw [p15]; exact q)
    have hM := gM_g (g' := w2.1 16) (fun x z => shade_sub hr' x (careRel_sub hc x z)) (hC.2.1 q)
    refine gM_root hM (fun x hx e => Or.inl ?_)
    rw [← p17]
    exact shade_nw hr' hx e
  · rw [nog (by rw [q]; decide)]
    exact gK3_root (hC.2.2 q f hf hfr) (fun x hx e => by rw [← nI_inj (by omega) (by omega) e]; exact h3 q f hf hfr)
theorem ask_step {w m m' : St} {B : Nat} (h : Sim w (m.2 0) B) (hc : f_X7_changes m = some (0, m')) (h0 : m'.2 0 = m.2 0) (x y : Int32) : ChS w m m' B (f_X5_askHolder x y w) (f_X7_ask x y m) := by
  obtain ⟨rw, li, hS⟩ := h
  rcases isI_or x 4 (by omega) with ⟨i, hi, rfl, hin⟩ | hin
  · have hin' : isI (nI i) 4 = 1 := hin
    rcases isI_or y 4 (by omega) with ⟨j, hj, rfl, hjn⟩ | hjn
    · have hjn' : isI (nI j) 4 = 1 := hjn
      obtain ⟨hv, hv2⟩ := hS.1.2.2.2.2.2.2.2.2.2.2.2.1 i hi
      have h235 : 222 + i < 235 := by omega
      rcases hv with hv | ⟨k, hk, hv, hp⟩
      · refine Or.inl ⟨-14, no_14, ?_, ?_⟩
        · unfold f_X5_askHolder
          simp only [e_isIn, hin', hjn', Option.bind_some, oz, if_false, e_holderAt hi, hv, if_true]
        · unfold f_X7_ask
          simp (disch := omega) only [e_isRoot, hin', hjn', Option.bind_some, oz, if_false, addL, ibN, clN, h235, if_true, hv2, hv]
          rw [if_pos (by decide)]
      · have hnm : ¬ nI k = -1 := nI_ne_m1 (by omega)
        have hn0 : ¬ nI k < 0 := nI_pos (by omega)
        obtain ⟨w1, s1, rw1, a1, a2, a3, a4, a5⟩ := refer_sim (m := m') (by rw [h0]; exact hS.1) hj (to := nI k) (Or.inr ⟨k, hk, rfl, hp⟩)
        have hb : okr (w.1 13) (w.2 2 j) := (hS.1.2.2.2.2.2.2.2.2.2.2.1 j hj).1
        have hb24 : w.2 2 j < 24 := by
          rcases hb with q | ⟨z, hz, q, _⟩
          · rw [q]; decide
          · rw [q]; exact (ltL (by omega) (by omega)).mpr (by omega)
        obtain ⟨w2, s2, rw2, b1, b2, b3, b4, b5, b6⟩ := need_sim (m := sG m' 0 s1) (by rw [sG_2]; exact a3) (v := nI k) (Or.inr ⟨k, hk, rfl, by rw [a5.1 13 (by decide) (by decide)]; exact hp⟩)
        obtain ⟨c1, c2⟩ := ask_done hS.2 b3 hk a4 a5 b4 b5 b6 (fun q f hf hfr => (hS.2.2.2 q f hf hfr).2.2.2.2.1 k hk ⟨i, hi, hv⟩)
        refine Or.inr ⟨nI k, w2, s2, ok_nI (by omega), ?_, ?_, Sim_mono (Nat.le_succ B) c1, c2⟩
        · unfold f_X5_askHolder
          simp only [e_isIn, hin', hjn', Option.bind_some, oz, if_false, e_holderAt hi, hv, hnm, a1, b1]
        · unfold f_X7_ask
          simp (disch := omega) only [e_isRoot, hin', hjn', Option.bind_some, oz, if_false, addL, ibN, clN, h235, if_true, hv2, hv, hn0, hc, a2, shades_ok (m := sG m' 0 s1) (by rw [sG_2]; exact a3), hb24]
          rcases b2 with ⟨q1, q2⟩ | ⟨q1, q2⟩
          · rw [if_pos q1, ← q2, sG_sG]
          · rw [if_neg q1, q2, sG_sG]
            rfl
    · have hjn' : isI y 4 = 0 := hjn
      refine Or.inl ⟨-11, no_11, ?_, ?_⟩
      · unfold f_X5_askHolder
        simp only [e_isIn, hin', hjn', Option.bind_some, oz, if_false, if_true]
      · unfold f_X7_ask
        simp only [e_isRoot, hin', hjn', Option.bind_some, oz, if_false, if_true]
  · have hin' : isI x 4 = 0 := hin
    refine Or.inl ⟨-11, no_11, ?_, ?_⟩
    · unfold f_X5_askHolder
      simp only [e_isIn, hin', Option.bind_some, if_true]
    · unfold f_X7_ask
      simp only [e_isRoot, hin', Option.bind_some, if_true]
