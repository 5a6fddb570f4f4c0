/-! PURE: the text is tried -/
theorem reads_sim {T : Nat → Int32} {L p : Nat} (ht : Txt T L) {w m : St} (h1 : TxC w T L p) (h2 : TxM m T L p) (hp : p < L) : Rd w m L p (f_X0_readCommand w) (f_X7_reads m) := by
  have hL := ht.1
  have hch : chT T L p = T p := if_pos hp
  have hib : ib (nI p) 60 := (ibN (by omega)).mpr (by omega)
  have h5 : m.2 5 (nI p).toNatClampNeg = T p := by rw [clN (by omega)]; exact h2.2.1 p hp
  have hwa : TxC (sR (sR w 2 (T p)) 1 (nI (p + 1))) T L (p + 1) := TxC_at (TxC_st h1 2 (by omega) (T p)) (p + 1)
  have hma : TxM (sR (sR m 7 (T p)) 4 (nI (p + 1))) T L (p + 1) := TxM_at (TxM_7 h2 (T p)) (p + 1)
  have fw : frC w (sR (sR w 2 (T p)) 1 (nI (p + 1))) := ((frC.rf w).st 2 (by omega) _).st 1 (by omega) _
  have fm : frM m (sR (sR m 7 (T p)) 4 (nI (p + 1))) := ((frM.rf m).s7 _).s4 _
  have ec : (sR (sR w 2 (T p)) 1 (nI (p + 1))).1 2 = T p := rfl
  have em : (sR (sR m 7 (T p)) 4 (nI (p + 1))).1 7 = T p := rfl
  unfold f_X0_readCommand f_X7_reads
  rw [e_signAt ht h1 (by omega)]
  simp only [Option.bind_some]
  rw [hch, h2.2.2, h1.2.2, nI_eq_of, if_pos hib, h5]
  by_cases k98 : T p = 98
  · rw [if_pos k98, if_pos k98]
    exact Rd_or (last_sim ht hwa hma (by omega) (by omega) fw fm (em.trans ec.symm) (fun q => Or.inl k98))
  rw [if_neg k98, if_neg k98]
  by_cases k102 : T p = 102
  · rw [if_pos k102, if_pos k102]
    exact three_sim ht hwa hma (by omega) (by omega) fw fm (em.trans ec.symm) k102
  rw [if_neg k102, if_neg k102]
  by_cases k110 : T p = 110
  · rw [if_pos k110, if_pos k110]
    exact one_sim ht hwa hma (by omega) (by omega) fw fm (em.trans ec.symm) (Or.inl k110)
  rw [if_neg k110, if_neg k110]
  by_cases k114 : T p = 114
  · rw [if_pos k114, if_pos k114]
    exact two_sim ht hwa hma (by omega) (by omega) fw fm (em.trans ec.symm) k114
  rw [if_neg k114, if_neg k114]
  by_cases k115 : T p = 115
  · rw [if_pos k115, if_pos k115]
    exact one_sim ht hwa hma (by omega) (by omega) fw fm (em.trans ec.symm) (Or.inr k115)
  rw [if_neg k115, if_neg k115]
  exact Or.inl ⟨_, _, rfl, rfl, fw, fm⟩
theorem chg_runs {m : St} (h : ¬ m.1 2 = 0) : f_X7_changes m = some (0, m) := by
  unfold f_X7_changes
  rw [if_neg h]
def clsCall (w : St) : Option (Int32 × St) := if w.1 2 = 98 then f_X5_beginSearch w else if w.1 2 = 102 then f_X5_writeField (w.1 3) (w.1 4) (w.1 5) w else if w.1 2 = 110 then f_X5_create (w.1 3) w else if w.1 2 = 114 then f_X5_writeRoot (w.1 3) (w.1 4) w else f_X5_doSteps (w.1 3) w
theorem ChS_bind {w m m' : St} {B : Nat} {c mo : Option (Int32 × St)} (h : ChS w m m' B c mo) : ChS w m m' B c (mo.bind fun o => some (o.1, o.2)) := by
  rcases h with ⟨v, a, b, e⟩ | ⟨v, w', s', a, b, e, f⟩
  · exact Or.inl ⟨v, a, b, by rw [e]; rfl⟩
  · exact Or.inr ⟨v, w', s', a, b, by rw [e]; rfl, f⟩
theorem calls_sim {w m : St} {B : Nat} (h : Sim w (m.2 0) B) (hr : ¬ m.1 2 = 0) (h7 : m.1 7 = w.1 2) (hK : Kind w m) : ChS w m m B (clsCall w) (f_X7_calls m) := by
  have hc := chg_runs hr
  have i0 : ib 0 3 := by decide
  have i1 : ib 1 3 := by decide
  have i2 : ib 2 3 := by decide
  have c1 : (1 : Int32).toNatClampNeg = 1 := by decide
  have c2 : (2 : Int32).toNatClampNeg = 2 := by decide
  unfold clsCall f_X7_calls
  rw [h7]
  rcases hK with k | ⟨k, a, b, c⟩ | ⟨k, a⟩ | ⟨k, a, b⟩ | ⟨k, a⟩
  · rw [if_pos k, if_pos k]
    exact ChS_bind (begin_step h hc rfl)
  · rw [k, if_neg (by decide), if_pos rfl, if_neg (by decide), if_neg (by decide), if_neg (by decide), if_neg (by decide), if_pos i0, if_pos i1, if_pos i2, c0L, c1, c2, ← a, ← b, ← c]
    exact ChS_bind (field_step h hc rfl _ _ _)
  · rw [k, if_neg (by decide), if_neg (by decide), if_pos rfl, if_neg (by decide), if_pos rfl, if_pos i0, c0L, ← a]
    exact ChS_bind (make_step h hc rfl _)
  · rw [k, if_neg (by decide), if_neg (by decide), if_neg (by decide), if_pos rfl, if_neg (by decide), if_neg (by decide), if_pos rfl, if_pos i0, if_pos i1, c0L, c1, ← a, ← b]
    exact ChS_bind (root_step h hc rfl _ _)
  · rw [k, if_neg (by decide), if_neg (by decide), if_neg (by decide), if_neg (by decide), if_neg (by decide), if_neg (by decide), if_neg (by decide), if_pos rfl, if_pos i0, c0L, ← a]
    exact ChS_bind (step_step h hc rfl _)
