/-! PURE: ask, finish -/
theorem need_sim {w m : St} {B : Nat} {ex rw li : List Nat} (h : SimB w (m.2 0) B ex rw li) {v : Int32} (hv : okr (w.1 13) v) : ∃ w' s' rw', f_X5_shadeIfCareIsNeeded v w = some (0, w') ∧ ((ndI (w.1 15) = 0 ∧ sG m 0 s' = m) ∨ (¬ ndI (w.1 15) = 0 ∧ f_X7_shades v m = some (0, sG m 0 s'))) ∧ SimB w' s' B ex rw' li ∧ (¬ (w.1 15 = 1 ∨ w.1 15 = 2) → w'.1 16 = w.1 16) ∧ (w.1 15 = 1 ∨ w.1 15 = 2 → shadeRel v (w.1 16) (w.1 17) (w'.1 16)) ∧ sameX w w' := by
  by_cases hz : ndI (w.1 15) = 0
  · refine ⟨w, m.2 0, rw, ?_, Or.inl ⟨hz, sG_self m 0⟩, h, fun _ => rfl, fun q => absurd q (ndI_0.mp hz), sameX.rf w⟩
    unfold f_X5_shadeIfCareIsNeeded
    rw [e_needs]
    simp only [Option.bind_some, hz, if_true]
  · obtain ⟨w', s', rw', e1, e2, a1, a2, a3⟩ := shade_sim h hv
    refine ⟨w', s', rw', ?_, Or.inr ⟨hz, e2⟩, a1, fun q => absurd (ndI_0.mpr q) hz, fun _ => a2, a3⟩
    unfold f_X5_shadeIfCareIsNeeded
    rw [e_needs]
    simp only [Option.bind_some, hz, if_false, e1]
theorem sR_comm (w : St) {a b : Nat} (h : a ≠ b) (u v : Int32) : sR (sR w a u) b v = sR (sR w b v) a u := by
  unfold sR
  refine Prod.ext ?_ rfl
  funext j
  show (if j = b then v else if j = a then u else w.1 j) = if j = a then u else if j = b then v else w.1 j
  by_cases e : j = b
  · rw [if_pos e, if_neg (fun q => h (q.symm.trans e)), if_pos e]
  · rw [if_neg e, if_neg e]
def up12 (v : Int32) (o : Int32 × St) : Int32 × St := (o.1, sR o.2 12 v)
theorem cm_shade (x v : Int32) (w w' : St) (h : f_X4_shade x w = some (0, w')) : f_X4_shade x (sR w 12 v) = some (0, sR w' 12 v) := by
  unfold f_X4_shade at h ⊢
  rw [e_bit] at h ⊢
  simp only [Option.bind_some] at h ⊢
  have h16 : (sR w 12 v).1 16 = w.1 16 := rfl
  have h17 : (sR w 12 v).1 17 = w.1 17 := rfl
  rw [h16, h17]
  by_cases h1 : bI x = 0
  · rw [if_pos h1] at h ⊢
    injection h with h; injection h with _ h; rw [h]
  · rw [if_neg h1] at h ⊢
    by_cases h2 : (w.1 16 ||| w.1 17) &&& bI x = 0
    · rw [if_pos h2] at h ⊢
      rw [sR_comm w (by decide : (12 : Nat) ≠ 16)]
      unfold f_X3_append_6 at h ⊢
      have h24 : (sR (sR w 16 (w.1 16 ||| bI x)) 12 v).1 24 = (sR w 16 (w.1 16 ||| bI x)).1 24 := rfl
      rw [h24]
      generalize sR w 16 (w.1 16 ||| bI x) = z at h ⊢
      by_cases h3 : z.1 24 < 24
      · rw [if_pos h3] at h ⊢
        by_cases h4 : ib (z.1 24) 24
        · simp only [if_pos h4, Option.bind_some] at h ⊢
          injection h with h; injection h with _ h; rw [← h]
          refine congrArg (fun q => some ((0 : Int32), q)) ?_
          exact (sR_comm (sA z 5 (z.1 24) x) (by decide : (24 : Nat) ≠ 12) _ v).symm
        · simp only [if_neg h4, Option.bind_none] at h
          cases h
      · rw [if_neg h3] at h ⊢
        simp only [Option.bind_some] at h ⊢
        injection h with h; injection h with _ h; rw [h]
    · rw [if_neg h2] at h ⊢
      injection h with h; injection h with _ h; rw [h]
