/-! PURE: a command is read -/
def RdV (T : Nat → Int32) (L : Nat) (cf : St → Option (Int32 × St)) (mf : Int32 → St → Option (Int32 × St)) (p : Nat) : Prop :=
  ∃ p' v, p ≤ p' ∧ p' ≤ L ∧ (∀ w, TxC w T L p → cf w = some (v, sR w 1 (nI p'))) ∧ ∀ m i, i < 3 → TxM m T L p → ∃ g, mf (nI i) m = some (if v = -2 then 0 else 1, sR (sG m 6 g) 4 (nI p')) ∧ (∀ j, j ≠ i → g j = m.2 6 j) ∧ (v ≠ -2 → g i = v)
theorem nI_ne_m2 {k : Nat} (hk : k < 2147483648) : nI k ≠ -2 := by
  intro h
  have := ok_nI1 (n := k) hk
  have h0 := nI_pos hk
  rw [h] at h0
  exact h0 (by decide)
theorem numV {T : Nat → Int32} {L p : Nat} (ht : Txt T L) (hpL : p ≤ L) : RdV T L f_X0_readNumber f_X7_number p := by
  obtain ⟨d, a, h1, h2, h3, h4⟩ := num_sim ht hpL
  refine ⟨p + d, if d = 0 then -2 else nI a, by omega, h1, h3, fun m i hi h => ⟨upd (m.2 6) i (nI a), ?_, fun j hj => upd_ne hj, fun hv => ?_⟩⟩
  · rw [h4 m i hi h]
    by_cases z : d = 0
    · rw [if_pos z, if_pos z, if_pos rfl]
    · rw [if_neg z, if_neg z, if_neg (nI_ne_m2 (by omega))]
  · rw [upd_eq]
    by_cases z : d = 0
    · rw [if_pos z] at hv; exact absurd rfl hv
    · rw [if_neg z]
theorem tgtV {T : Nat → Int32} {L p : Nat} (ht : Txt T L) (hpL : p ≤ L) : RdV T L f_X0_readTarget f_X7_target p := by
  have hL := ht.1
  by_cases hc : chT T L p = 45
  · have hlt : p < L := by
      unfold chT at hc
      by_cases q : p < L
      · exact q
      · rw [if_neg q] at hc; exact absurd hc (by decide)
    refine ⟨p + 1, -1, by omega, by omega, fun w h => ?_, fun m i hi h => ⟨upd (m.2 6) i (-1), ?_, fun j hj => upd_ne hj, fun _ => upd_eq _ _ _⟩⟩
    · unfold f_X0_readTarget
      rw [e_read ht h (by omega), if_pos hc]
      simp only [Option.bind_some, oz, if_false]
    · unfold f_X7_target
      rw [e_sign ht h (by omega) (by decide), if_pos hc]
      simp only [Option.bind_some, oz, if_false]
      rw [if_pos ((ibN (by omega)).mpr hi), if_neg (show ¬ (-1 : Int32) = -2 by decide)]
      unfold sA
      rw [clN (show i < 2147483648 by omega)]
      rfl
  · obtain ⟨p', v, h1, h2, h3, h4⟩ := numV ht hpL
    refine ⟨p', v, h1, h2, fun w h => ?_, fun m i hi h => ?_⟩
    · unfold f_X0_readTarget
      rw [e_read ht h (by omega), if_neg hc]
      simp only [Option.bind_some, if_true, h3 w h]
    · obtain ⟨g, g1, g2, g3⟩ := h4 m i hi h
      refine ⟨g, ?_, g2, g3⟩
      unfold f_X7_target
      rw [e_sign ht h (by omega) (by decide), if_neg hc]
      simp only [Option.bind_some, if_true, g1]
      by_cases z : v = -2
      · rw [if_pos z, if_pos (Or.inl rfl)]
      · rw [if_neg z, if_pos (Or.inr rfl)]
def frC (w w1 : St) : Prop := (∀ r, (r = 0 ∨ 6 ≤ r) → w1.1 r = w.1 r) ∧ w1.2 = w.2
def frM (m m1 : St) : Prop := (∀ r, r ≠ 4 → r ≠ 7 → m1.1 r = m.1 r) ∧ ∀ a, a ≠ 6 → m1.2 a = m.2 a
theorem frC.rf (w : St) : frC w w := ⟨fun _ _ => rfl, rfl⟩
theorem frC.st {w w1 : St} (h : frC w w1) (r : Nat) (hr : 1 ≤ r ∧ r ≤ 5) (v : Int32) : frC w (sR w1 r v) := ⟨fun q hq => (if_neg (by omega)).trans (h.1 q hq), h.2⟩
theorem frM.rf (m : St) : frM m m := ⟨fun _ _ _ => rfl, fun _ _ => rfl⟩
theorem frM.s4 {m m1 : St} (h : frM m m1) (v : Int32) : frM m (sR m1 4 v) := ⟨fun q h1 h2 => (if_neg h1).trans (h.1 q h1 h2), h.2⟩
theorem frM.s7 {m m1 : St} (h : frM m m1) (v : Int32) : frM m (sR m1 7 v) := ⟨fun q h1 h2 => (if_neg h2).trans (h.1 q h1 h2), h.2⟩
theorem frM.g6 {m m1 : St} (h : frM m m1) (g : Nat → Int32) : frM m (sG m1 6 g) := ⟨h.1, fun a ha => (if_neg ha).trans (h.2 a ha)⟩
def Kind (w1 m1 : St) : Prop := (w1.1 2 = 98) ∨ (w1.1 2 = 102 ∧ w1.1 3 = m1.2 6 0 ∧ w1.1 4 = m1.2 6 1 ∧ w1.1 5 = m1.2 6 2) ∨ (w1.1 2 = 110 ∧ w1.1 3 = m1.2 6 0) ∨ (w1.1 2 = 114 ∧ w1.1 3 = m1.2 6 0 ∧ w1.1 4 = m1.2 6 1) ∨ (w1.1 2 = 115 ∧ w1.1 3 = m1.2 6 0)
def Rd (w m : St) (L p : Nat) (c mo : Option (Int32 × St)) : Prop :=
  (∃ w1 m1, c = some (0, w1) ∧ mo = some (0, m1) ∧ frC w w1 ∧ frM m m1) ∨ ∃ w1 m1 p', c = some (1, w1) ∧ mo = some (1, m1) ∧ frC w w1 ∧ frM m m1 ∧ p < p' ∧ p' ≤ L ∧ w1.1 1 = nI p' ∧ m1.1 4 = nI p' ∧ m1.1 7 = w1.1 2 ∧ Kind w1 m1
theorem TxC_st {w : St} {T : Nat → Int32} {L p : Nat} (h : TxC w T L p) (r : Nat) (hr : 2 ≤ r) (v : Int32) : TxC (sR w r v) T L p := ⟨(if_neg (by omega)).trans h.1, h.2.1, (if_neg (by omega)).trans h.2.2⟩
theorem TxM_7 {m : St} {T : Nat → Int32} {L p : Nat} (h : TxM m T L p) (v : Int32) : TxM (sR m 7 v) T L p := h
theorem ch_lt {T : Nat → Int32} {L p : Nat} {c : Int32} (h : chT T L p = c) (hc : ¬ c = 0) : p < L := by
  unfold chT at h
  by_cases q : p < L
  · exact q
  · rw [if_neg q] at h; exact absurd h.symm hc
/-- the last sign, ";" -/
theorem last_sim {T : Nat → Int32} {L p p0 : Nat} (ht : Txt T L) {w m wa ma : St} (h1 : TxC wa T L p) (h2 : TxM ma T L p) (hp : p ≤ L) (hp0 : p0 ≤ p) (f1 : frC w wa) (f2 : frM m ma) (hk : ma.1 7 = wa.1 2) (hK : ∀ q, Kind (sR wa 1 q) (sR ma 4 q)) :
    Rd w m L p0 (f_X0_read 59 wa) (f_X7_sign 59 ma) := by
  have hL := ht.1
  rw [e_read ht h1 (by omega), e_sign ht h2 (by omega) (by decide)]
  by_cases hc : chT T L p = 59
  · rw [if_pos hc, if_pos hc]
    have := ch_lt hc (by decide)
    exact Or.inr ⟨_, _, p + 1, rfl, rfl, f1.st 1 (by omega) _, f2.s4 _, by omega, by omega, rfl, rfl, hk, hK _⟩
  · rw [if_neg hc, if_neg hc]
    exact Or.inl ⟨_, _, rfl, rfl, f1, f2⟩
theorem Rd_same {w m : St} {L p : Nat} {c mo : Option (Int32 × St)} (h : Rd w m L p c mo) : Rd w m L p (c.bind fun o => if o.1 = 0 then some (0, o.2) else some (1, o.2)) (mo.bind fun o => if o.1 = 0 then some (0, o.2) else some (1, o.2)) := by
  rcases h with ⟨w1, m1, rfl, rfl, a, b⟩ | ⟨w1, m1, p', rfl, rfl, a⟩
  · exact Or.inl ⟨w1, m1, rfl, rfl, a, b⟩
  · exact Or.inr ⟨w1, m1, p', rfl, rfl, a⟩
theorem Rd_or {w m : St} {L p : Nat} {c mo : Option (Int32 × St)} (h : Rd w m L p c mo) : Rd w m L p (c.bind fun o => if o.1 = 0 ∨ o.1 = 1 then some (o.1, o.2) else none) (mo.bind fun o => if o.1 = 0 ∨ o.1 = 1 then some (o.1, o.2) else none) := by
  rcases h with ⟨w1, m1, rfl, rfl, a, b⟩ | ⟨w1, m1, p', rfl, rfl, a⟩
  · exact Or.inl ⟨w1, m1, rfl, rfl, a, b⟩
  · exact Or.inr ⟨w1, m1, p', rfl, rfl, a⟩
/-- a number, and ";" -/
theorem one_sim {T : Nat → Int32} {L p p0 : Nat} (ht : Txt T L) {w m wa ma : St} (h1 : TxC wa T L p) (h2 : TxM ma T L p) (hp : p ≤ L) (hp0 : p0 ≤ p) (f1 : frC w wa) (f2 : frM m ma) (hk : ma.1 7 = wa.1 2) (hK : wa.1 2 = 110 ∨ wa.1 2 = 115) :
    Rd w m L p0 ((f_X0_readNumber wa).bind fun o50 => (if o50.1 = (-2) then some (0, sR o50.2 3 o50.1) else (f_X0_read 59 (sR o50.2 3 o50.1)).bind fun o53 => (if o53.1 = 0 then some (0, o53.2) else some (1, o53.2)))) ((f_X7_number 0 ma).bind fun o26 => (if o26.1 = 0 then some (0, o26.2) else (f_X7_sign 59 o26.2).bind fun o29 => (if o29.1 = 0 then some (0, o29.2) else some (1, o29.2)))) := by
  obtain ⟨p', v, q1, q2, q3, q4⟩ := numV ht hp
  obtain ⟨g, g1, g2, g3⟩ := q4 ma 0 (by omega) h2
  rw [q3 wa h1, show f_X7_number 0 ma = _ from g1]
  simp only [Option.bind_some]
  by_cases hv : v = -2
  · rw [if_pos hv, if_pos hv, if_pos rfl]
    exact Or.inl ⟨_, _, rfl, rfl, (f1.st 1 (by omega) _).st 3 (by omega) _, (f2.g6 _).s4 _⟩
  · rw [if_neg hv, if_neg hv, if_neg (by decide)]
    refine Rd_same (last_sim ht (TxC_st (TxC_at h1 p') 3 (by omega) v) (TxM_at (TxM_told h2 g) p') q2 (by omega) ((f1.st 1 (by omega) _).st 3 (by omega) _) ((f2.g6 _).s4 _) hk (fun q => ?_))
    have e0 : g 0 = v := g3 hv
    rcases hK with hK | hK
    · exact Or.inr (Or.inr (Or.inl ⟨hK, e0.symm⟩))
    · exact Or.inr (Or.inr (Or.inr (Or.inr ⟨hK, e0.symm⟩)))
/-- a number, ",", a target and ";" -/
theorem two_sim {T : Nat → Int32} {L p p0 : Nat} (ht : Txt T L) {w m wa ma : St} (h1 : TxC wa T L p) (h2 : TxM ma T L p) (hp : p ≤ L) (hp0 : p0 ≤ p) (f1 : frC w wa) (f2 : frM m ma) (hk : ma.1 7 = wa.1 2) (hK : wa.1 2 = 114) :
    Rd w m L p0 ((f_X0_readNumber wa).bind fun o57 => (f_X0_read 44 (sR o57.2 3 o57.1)).bind fun o59 => (if o59.1 = 0 then (if (o59.2.1 3) = (-2) then some (0, sR o59.2 4 (-2)) else (if ((-2) : Int32) = (-2) then some (0, sR o59.2 4 (-2)) else (f_X0_read 59 (sR o59.2 4 (-2))).bind fun o64 => (if o64.1 = 0 then some (0, o64.2) else some (1, o64.2)))) else (f_X0_readTarget o59.2).bind fun o67 => (if (o67.2.1 3) = (-2) then some (0, sR o67.2 4 o67.1) else (if o67.1 = (-2) then some (0, sR o67.2 4 o67.1) else (f_X0_read 59 (sR o67.2 4 o67.1)).bind fun o71 => (if o71.1 = 0 then some (0, o71.2) else some (1, o71.2))))))
      ((f_X7_number 0 ma).bind fun o33 => (if o33.1 = 0 then some (0, o33.2) else (f_X7_sign 44 o33.2).bind fun o36 => (if o36.1 = 0 then some (0, o36.2) else (f_X7_target 1 o36.2).bind fun o39 => (if o39.1 = 0 then some (0, o39.2) else (f_X7_sign 59 o39.2).bind fun o42 => (if o42.1 = 0 then some (0, o42.2) else some (1, o42.2)))))) := by
  have hL := ht.1
  obtain ⟨p1, v1, q1, q2, q3, q4⟩ := numV ht hp
  obtain ⟨g, g1, g2, g3⟩ := q4 ma 0 (by omega) h2
  have hw1 : TxC (sR (sR wa 1 (nI p1)) 3 v1) T L p1 := TxC_st (TxC_at h1 p1) 3 (by omega) v1
  have hm1 : TxM (sR (sG ma 6 g) 4 (nI p1)) T L p1 := TxM_at (TxM_told h2 g) p1
  have fw1 : frC w (sR (sR wa 1 (nI p1)) 3 v1) := (f1.st 1 (by omega) _).st 3 (by omega) _
  have fm1 : frM m (sR (sG ma 6 g) 4 (nI p1)) := (f2.g6 _).s4 _
  rw [q3 wa h1, show f_X7_number 0 ma = _ from g1]
  simp only [Option.bind_some]
  rw [e_read ht hw1 (by omega)]
  by_cases hc : chT T L p1 = 44
  · have hlt := ch_lt hc (by decide)
    obtain ⟨p2, v2, r1, r2, r3, r4⟩ := tgtV ht (p := p1 + 1) (by omega)
    have hw2 := TxC_at hw1 (p1 + 1)
    have hm2 := TxM_at hm1 (p1 + 1)
    obtain ⟨g', g1', g2', g3'⟩ := r4 _ 1 (by omega) hm2
    rw [if_pos hc]
    simp only [Option.bind_some, oz, if_false]
    rw [r3 _ hw2]
    simp only [Option.bind_some]
    have e3 : (sR (sR (sR (sR wa 1 (nI p1)) 3 v1) 1 (nI (p1 + 1))) 1 (nI p2)).1 3 = v1 := rfl
    rw [e3]
    have fw2 : frC w (sR (sR (sR (sR (sR wa 1 (nI p1)) 3 v1) 1 (nI (p1 + 1))) 1 (nI p2)) 4 v2) := ((fw1.st 1 (by omega) _).st 1 (by omega) _).st 4 (by omega) _
    by_cases hv1 : v1 = -2
    · rw [if_pos hv1, if_pos hv1, if_pos rfl]
      exact Or.inl ⟨_, _, rfl, rfl, fw2, fm1⟩
    · rw [if_neg hv1, if_neg hv1, if_neg (show ¬ (1 : Int32) = 0 by decide), e_sign ht hm1 (by omega) (by decide), if_pos hc]
      simp only [Option.bind_some, oz, if_false]
      rw [show f_X7_target 1 (sR (sR (sG ma 6 g) 4 (nI p1)) 4 (nI (p1 + 1))) = _ from g1']
      simp only [Option.bind_some]
      have fm2 := ((fm1.s4 (nI (p1 + 1))).g6 g').s4 (nI p2)
      by_cases hv2 : v2 = -2
      · rw [if_pos hv2, if_pos hv2, if_pos rfl]
        exact Or.inl ⟨_, _, rfl, rfl, fw2, fm2⟩
      · rw [if_neg hv2, if_neg hv2, if_neg (show ¬ (1 : Int32) = 0 by decide)]
        refine Rd_same (last_sim ht (TxC_st (TxC_at hw2 p2) 4 (by omega) v2) (TxM_at (TxM_told hm2 g') p2) r2 (by omega) fw2 fm2 hk (fun q => ?_))
        have e0 : g' 0 = v1 := (g2' 0 (by omega)).trans (show (sR (sR (sG ma 6 g) 4 (nI p1)) 4 (nI (p1 + 1))).2 6 0 = v1 from g3 hv1)
        have e1 : g' 1 = v2 := g3' hv2
        exact Or.inr (Or.inr (Or.inr (Or.inl ⟨hK, e0.symm, e1.symm⟩)))
  · rw [if_neg hc]
    simp only [Option.bind_some, if_true]
    have ec : (if (sR (sR wa 1 (nI p1)) 3 v1).1 3 = -2 then some ((0 : Int32), sR (sR (sR wa 1 (nI p1)) 3 v1) 4 (-2)) else some (0, sR (sR (sR wa 1 (nI p1)) 3 v1) 4 (-2))) = some (0, sR (sR (sR wa 1 (nI p1)) 3 v1) 4 (-2)) := by split <;> rfl
    rw [ec]
    by_cases hv1 : v1 = -2
    · rw [if_pos hv1, if_pos rfl]
      exact Or.inl ⟨_, _, rfl, rfl, fw1.st 4 (by omega) _, fm1⟩
    · rw [if_neg hv1, if_neg (show ¬ (1 : Int32) = 0 by decide), e_sign ht hm1 (by omega) (by decide), if_neg hc]
      exact Or.inl ⟨_, _, rfl, rfl, fw1.st 4 (by omega) _, fm1⟩
/-- a number, ",", a number, ",", a target and ";" -/
theorem three_sim {T : Nat → Int32} {L p p0 : Nat} (ht : Txt T L) {w m wa ma : St} (h1 : TxC wa T L p) (h2 : TxM ma T L p) (hp : p ≤ L) (hp0 : p0 ≤ p) (f1 : frC w wa) (f2 : frM m ma) (hk : ma.1 7 = wa.1 2) (hK : wa.1 2 = 102) :
    Rd w m L p0 ((f_X0_readNumber wa).bind fun o8 => (f_X0_read 44 (sR o8.2 3 o8.1)).bind fun o10 => (if o10.1 = 0 then (f_X0_read 44 (sR o10.2 4 (-2))).bind fun o13 => (if o13.1 = 0 then (if (o13.2.1 3) = (-2) then some (0, sR o13.2 5 (-2)) else (if (o13.2.1 4) = (-2) then some (0, sR o13.2 5 (-2)) else (if ((-2) : Int32) = (-2) then some (0, sR o13.2 5 (-2)) else (f_X0_read 59 (sR o13.2 5 (-2))).bind fun o19 => (if o19.1 = 0 then some (0, o19.2) else some (1, o19.2))))) else (f_X0_readTarget o13.2).bind fun o22 => (if (o22.2.1 3) = (-2) then some (0, sR o22.2 5 o22.1) else (if (o22.2.1 4) = (-2) then some (0, sR o22.2 5 o22.1) else (if o22.1 = (-2) then some (0, sR o22.2 5 o22.1) else (f_X0_read 59 (sR o22.2 5 o22.1)).bind fun o27 => (if o27.1 = 0 then some (0, o27.2) else some (1, o27.2)))))) else (f_X0_readNumber o10.2).bind fun o30 => (f_X0_read 44 (sR o30.2 4 o30.1)).bind fun o32 => (if o32.1 = 0 then (if (o32.2.1 3) = (-2) then some (0, sR o32.2 5 (-2)) else (if (o32.2.1 4) = (-2) then some (0, sR o32.2 5 (-2)) else (if ((-2) : Int32) = (-2) then some (0, sR o32.2 5 (-2)) else (f_X0_read 59 (sR o32.2 5 (-2))).bind fun o38 => (if o38.1 = 0 then some (0, o38.2) else some (1, o38.2))))) else (f_X0_readTarget o32.2).bind fun o41 => (if (o41.2.1 3) = (-2) then some (0, sR o41.2 5 o41.1) else (if (o41.2.1 4) = (-2) then some (0, sR o41.2 5 o41.1) else (if o41.1 = (-2) then some (0, sR o41.2 5 o41.1) else (f_X0_read 59 (sR o41.2 5 o41.1)).bind fun o46 => (if o46.1 = 0 then some (0, o46.2) else some (1, o46.2))))))))
      ((f_X7_number 0 ma).bind fun o7 => (if o7.1 = 0 then some (0, o7.2) else (f_X7_sign 44 o7.2).bind fun o10 => (if o10.1 = 0 then some (0, o10.2) else (f_X7_number 1 o10.2).bind fun o13 => (if o13.1 = 0 then some (0, o13.2) else (f_X7_sign 44 o13.2).bind fun o16 => (if o16.1 = 0 then some (0, o16.2) else (f_X7_target 2 o16.2).bind fun o19 => (if o19.1 = 0 then some (0, o19.2) else (f_X7_sign 59 o19.2).bind fun o22 => (if o22.1 = 0 then some (0, o22.2) else some (1, o22.2)))))))) := by
  have hL := ht.1
  obtain ⟨p1, v1, q1, q2, q3, q4⟩ := numV ht hp
  obtain ⟨g, g1, g2, g3⟩ := q4 ma 0 (by omega) h2
  have hw1 : TxC (sR (sR wa 1 (nI p1)) 3 v1) T L p1 := TxC_st (TxC_at h1 p1) 3 (by omega) v1
  have hm1 : TxM (sR (sG ma 6 g) 4 (nI p1)) T L p1 := TxM_at (TxM_told h2 g) p1
  have fw1 : frC w (sR (sR wa 1 (nI p1)) 3 v1) := (f1.st 1 (by omega) _).st 3 (by omega) _
  have fm1 : frM m (sR (sG ma 6 g) 4 (nI p1)) := (f2.g6 _).s4 _
  rw [q3 wa h1, show f_X7_number 0 ma = _ from g1]
  simp only [Option.bind_some]
  rw [e_read ht hw1 (by omega)]
  have no2 : ¬ (1 : Int32) = 0 := by decide
  by_cases hc : chT T L p1 = 44
  · have hlt := ch_lt hc (by decide)
    rw [if_pos hc]
    simp only [Option.bind_some, oz, if_false]
    obtain ⟨p2, v2, r1, r2, r3, r4⟩ := numV ht (p := p1 + 1) (by omega)
    have hw2 := TxC_at hw1 (p1 + 1)
    have hm2 := TxM_at hm1 (p1 + 1)
    obtain ⟨g', g1', g2', g3'⟩ := r4 _ 1 (by omega) hm2
    rw [r3 _ hw2]
    simp only [Option.bind_some]
    have hw3 := TxC_st (TxC_at hw2 p2) 4 (by omega) v2
    have hm3 := TxM_at (TxM_told hm2 g') p2
    have fw3 : frC w (sR (sR (sR (sR (sR wa 1 (nI p1)) 3 v1) 1 (nI (p1 + 1))) 1 (nI p2)) 4 v2) := ((fw1.st 1 (by omega) _).st 1 (by omega) _).st 4 (by omega) _
    have fm3 := ((fm1.s4 (nI (p1 + 1))).g6 g').s4 (nI p2)
    rw [e_read ht hw3 (by omega)]
    by_cases hc2 : chT T L p2 = 44
    · have hlt2 := ch_lt hc2 (by decide)
      rw [if_pos hc2]
      simp only [Option.bind_some, oz, if_false]
      obtain ⟨p3, v3, t1, t2, t3, t4⟩ := tgtV ht (p := p2 + 1) (by omega)
      have hw4 := TxC_at hw3 (p2 + 1)
      have hm4 := TxM_at hm3 (p2 + 1)
      obtain ⟨g'', g1'', g2'', g3''⟩ := t4 _ 2 (by omega) hm4
      rw [t3 _ hw4]
      simp only [Option.bind_some]
      have e3 : (sR (sR (sR (sR (sR (sR (sR wa 1 (nI p1)) 3 v1) 1 (nI (p1 + 1))) 1 (nI p2)) 4 v2) 1 (nI (p2 + 1))) 1 (nI p3)).1 3 = v1 := rfl
      have e4 : (sR (sR (sR (sR (sR (sR (sR wa 1 (nI p1)) 3 v1) 1 (nI (p1 + 1))) 1 (nI p2)) 4 v2) 1 (nI (p2 + 1))) 1 (nI p3)).1 4 = v2 := rfl
      rw [e3, e4]
      have fw4 := ((fw3.st 1 (by omega) (nI (p2 + 1))).st 1 (by omega) (nI p3)).st 5 (by omega) v3
      by_cases hv1 : v1 = -2
      · rw [if_pos hv1, if_pos hv1, if_pos rfl]
        exact Or.inl ⟨_, _, rfl, rfl, fw4, fm1⟩
      · rw [if_neg hv1, if_neg hv1, if_neg no2, e_sign ht hm1 (by omega) (by decide), if_pos hc]
        simp only [Option.bind_some, oz, if_false]
        rw [show f_X7_number 1 (sR (sR (sG ma 6 g) 4 (nI p1)) 4 (nI (p1 + 1))) = _ from g1']
        simp only [Option.bind_some]
        by_cases hv2 : v2 = -2
        · rw [if_pos hv2, if_pos hv2, if_pos rfl]
          exact Or.inl ⟨_, _, rfl, rfl, fw4, fm3⟩
        · rw [if_neg hv2, if_neg hv2, if_neg no2, e_sign ht hm3 (by omega) (by decide), if_pos hc2]
          simp only [Option.bind_some, oz, if_false]
          rw [show f_X7_target 2 _ = _ from g1'']
          simp only [Option.bind_some]
          have fm4 := ((fm3.s4 (nI (p2 + 1))).g6 g'').s4 (nI p3)
          by_cases hv3 : v3 = -2
          · rw [if_pos hv3, if_pos hv3, if_pos rfl]
            exact Or.inl ⟨_, _, rfl, rfl, fw4, fm4⟩
          · rw [if_neg hv3, if_neg hv3, if_neg no2]
            refine Rd_same (last_sim ht (TxC_st (TxC_at hw4 p3) 5 (by omega) v3) (TxM_at (TxM_told hm4 g'') p3) t2 (by omega) fw4 fm4 hk (fun q => ?_))
            have e0 : g' 0 = v1 := (g2' 0 (by omega)).trans (show (sR (sR (sG ma 6 g) 4 (nI p1)) 4 (nI (p1 + 1))).2 6 0 = v1 from g3 hv1)
            have e00 : g'' 0 = v1 := (g2'' 0 (by omega)).trans e0
            have e1 : g'' 1 = v2 := (g2'' 1 (by omega)).trans (g3' hv2)
            exact Or.inr (Or.inl ⟨hK, e00.symm, e1.symm, (g3'' hv3).symm⟩)
    · rw [if_neg hc2]
      simp only [Option.bind_some, if_true]
      have ec : ∀ a b : Int32, ∀ z : Int32 × St, (if a = -2 then some z else if b = -2 then some z else some z) = some z := by intro a b z; split; rfl; split <;> rfl
      rw [ec]
      by_cases hv1 : v1 = -2
      · rw [if_pos hv1, if_pos rfl]
        exact Or.inl ⟨_, _, rfl, rfl, fw3.st 5 (by omega) _, fm1⟩
      · rw [if_neg hv1, if_neg no2, e_sign ht hm1 (by omega) (by decide), if_pos hc]
        simp only [Option.bind_some, oz, if_false]
        rw [show f_X7_number 1 (sR (sR (sG ma 6 g) 4 (nI p1)) 4 (nI (p1 + 1))) = _ from g1']
        simp only [Option.bind_some]
        by_cases hv2 : v2 = -2
        · rw [if_pos hv2, if_pos rfl]
          exact Or.inl ⟨_, _, rfl, rfl, fw3.st 5 (by omega) _, fm3⟩
        · rw [if_neg hv2, if_neg no2, e_sign ht hm3 (by omega) (by decide), if_neg hc2]
          exact Or.inl ⟨_, _, rfl, rfl, fw3.st 5 (by omega) _, fm3⟩
  · rw [if_neg hc]
    simp only [Option.bind_some, if_true]
    have hw2 := TxC_st hw1 4 (by omega) (-2)
    have fw2 : frC w (sR (sR (sR wa 1 (nI p1)) 3 v1) 4 (-2)) := fw1.st 4 (by omega) _
    rw [e_read ht hw2 (by omega), if_neg hc]
    simp only [Option.bind_some, if_true]
    have ec : ∀ a b : Int32, ∀ z : Int32 × St, (if a = -2 then some z else if b = -2 then some z else some z) = some z := by intro a b z; split; rfl; split <;> rfl
    rw [ec]
    by_cases hv1 : v1 = -2
    · rw [if_pos hv1, if_pos rfl]
      exact Or.inl ⟨_, _, rfl, rfl, fw2.st 5 (by omega) _, fm1⟩
    · rw [if_neg hv1, if_neg no2, e_sign ht hm1 (by omega) (by decide), if_neg hc]
      exact Or.inl ⟨_, _, rfl, rfl, fw2.st 5 (by omega) _, fm1⟩
