/-! PURE: the text is tried, in lockstep -/
def hiS (w w' : St) : Prop := (∀ r, 10 ≤ r → w'.1 r = w.1 r) ∧ ∀ a, a ≠ 0 → w'.2 a = w.2 a
theorem Sim_lo {w w' : St} {s : Nat → Int32} {B : Nat} (e : hiS w w') (h : Sim w s B) : Sim w' s B := by
  obtain ⟨rw, li, hS, hC⟩ := h
  obtain ⟨e1, e2⟩ := e
  have e10 := e1 10 (by omega)
  have e11 := e1 11 (by omega)
  have e12 := e1 12 (by omega)
  have e13 := e1 13 (by omega)
  have e14 := e1 14 (by omega)
  have e15 := e1 15 (by omega)
  have e16 := e1 16 (by omega)
  have e17 := e1 17 (by omega)
  have e18 := e1 18 (by omega)
  have e19 := e1 19 (by omega)
  have e20 := e1 20 (by omega)
  have e21 := e1 21 (by omega)
  have e22 := e1 22 (by omega)
  have e23 := e1 23 (by omega)
  have e24 := e1 24 (by omega)
  have a1 := e2 1 (by omega)
  have a2 := e2 2 (by omega)
  have a3 := e2 3 (by omega)
  have a4 := e2 4 (by omega)
  have a5 := e2 5 (by omega)
  have a6 := e2 6 (by omega)
  refine ⟨rw, li, ?_, ?_⟩
  · unfold SimB gNu gI at hS ⊢
    rw [e10, e11, e12, e13, e14, e15, e16, e17, e18, e19, e20, e21, e22, e23, e24, a1, a2, a3, a4, a5, a6]
    exact hS
  · rw [e10, e13, e15, e16, e17, e18, a1, a2, a3]
    exact hC
theorem hiS.st (w : St) {r : Nat} (hr : r < 10) (v : Int32) : hiS w (sR w r v) := ⟨fun q hq => if_neg (by omega), fun _ _ => rfl⟩
theorem hiS.tr {a b c : St} (h : hiS a b) (k : hiS b c) : hiS a c := ⟨fun r hr => (k.1 r hr).trans (h.1 r hr), fun x hx => (k.2 x hx).trans (h.2 x hx)⟩
theorem frC_hi {w w1 : St} (h : frC w w1) : hiS w w1 := ⟨fun r hr => h.1 r (by omega), fun a _ => by rw [h.2]⟩
def frT (w w' : St) : Prop := w'.1 0 = w.1 0 ∧ w'.2 0 = w.2 0
theorem frT.tr {a b c : St} (h : frT a b) (k : frT b c) : frT a c := ⟨k.1.trans h.1, k.2.trans h.2⟩
theorem frT.st (w : St) {r : Nat} (hr : r ≠ 0) (v : Int32) : frT w (sR w r v) := ⟨if_neg (by omega), rfl⟩
def frP (m m' : St) : Prop := (∀ r, r < 4 → m'.1 r = m.1 r) ∧ ∀ a, a ≠ 0 → a ≠ 6 → m'.2 a = m.2 a
theorem frP.rf (m : St) : frP m m := ⟨fun _ _ => rfl, fun _ _ _ => rfl⟩
theorem frP.tr {a b c : St} (h : frP a b) (k : frP b c) : frP a c := ⟨fun r hr => (k.1 r hr).trans (h.1 r hr), fun x h1 h2 => (k.2 x h1 h2).trans (h.2 x h1 h2)⟩
theorem frP.st (m : St) {r : Nat} (hr : 4 ≤ r) (v : Int32) : frP m (sR m r v) := ⟨fun q hq => if_neg (by omega), fun _ _ _ => rfl⟩
theorem frP.s0 (m : St) (g : Nat → Int32) : frP m (sG m 0 g) := ⟨fun _ _ => rfl, fun a ha _ => if_neg ha⟩
theorem frM_P {m m1 : St} (h : frM m m1) : frP m m1 := ⟨fun r hr => h.1 r (by omega) (by omega), fun a _ h6 => h.2 a h6⟩
theorem e_isError {Wt : Type} (v : Int32) (w : Wt) : f_X6_isError v w = some (if -11 < v then 0 else 1, w) := by
  unfold f_X6_isError
  split <;> rfl
theorem cls_eq {G : Int32 × St → Option (Int32 × St)} (w : St) : (if w.1 2 = 98 then (f_X5_beginSearch w).bind G else if w.1 2 = 102 then (f_X5_writeField (w.1 3) (w.1 4) (w.1 5) w).bind G else if w.1 2 = 110 then (f_X5_create (w.1 3) w).bind G else if w.1 2 = 114 then (f_X5_writeRoot (w.1 3) (w.1 4) w).bind G else (f_X5_doSteps (w.1 3) w).bind G) = (clsCall w).bind G := by
  unfold clsCall
  by_cases k1 : w.1 2 = 98
  · rw [if_pos k1, if_pos k1]
  rw [if_neg k1, if_neg k1]
  by_cases k2 : w.1 2 = 102
  · rw [if_pos k2, if_pos k2]
  rw [if_neg k2, if_neg k2]
  by_cases k3 : w.1 2 = 110
  · rw [if_pos k3, if_pos k3]
  rw [if_neg k3, if_neg k3]
  by_cases k4 : w.1 2 = 114
  · rw [if_pos k4, if_pos k4]
  rw [if_neg k4, if_neg k4]
theorem plays_0 {x : Int32} {m : St} {n : Nat} : f_X7_plays_L19 (n + 1) x 0 m = some (x, 0, m) := by
  rw [f_X7_plays_L19]
  split
  · rw [if_pos rfl]
  · rfl
theorem try_loop {T : Nat → Int32} {L : Nat} (ht : Txt T L) : ∀ (k n n' i p B : Nat) (w m : St) (x : Int32), L - p ≤ k → i ≤ p → p ≤ L → k < n → k + 1 < n' → Sim w (m.2 0) B → TxC w T L p → TxM m T L p → ¬ m.1 2 = 0 → w.1 6 = nI i → m.1 6 = nI i → w.1 8 = 0 →
    ∃ w' m', f_X0_tryOn_L17 n (nI i) w = some (0, w') ∧ frT w w' ∧ frP m m' ∧
      ((∃ x' j, j ≤ 60 ∧ f_X7_plays_L19 n' x 1 m = some (x', 1, m') ∧ w'.1 8 = 0 ∧ w'.1 6 = nI j ∧ m'.1 6 = nI j ∧ Sim w' (m'.2 0) (B + k)) ∨
       (∃ q, q < 60 ∧ f_X7_plays_L19 n' x 1 m = some (nI q, 0, m') ∧ w'.1 7 = nI q ∧ ((w'.1 8 = 1 ∧ m'.1 5 = 0) ∨ (w'.1 8 = 2 ∧ m'.1 5 = w'.1 9 ∧ ¬ (-11 : Int32) < w'.1 9)))) := by
  have hL := ht.1
  intro k
  induction k with
  | zero =>
    intro n n' i p B w m x hk hi hp hn hn' hS h1 h2 hr h6 hm6 h8
    obtain ⟨n, rfl⟩ : ∃ q, n = q + 1 := ⟨n - 1, by omega⟩
    obtain ⟨n', rfl⟩ : ∃ q, n' = q + 1 := ⟨n' - 1, by omega⟩
    have hpe : p = L := by omega
    have hno : ¬ nI p < nI L := fun q => by have := (nI_ltI (by omega) (by omega)).mp q; omega
    refine ⟨w, m, ?_, ⟨rfl, rfl⟩, frP.rf m, Or.inl ⟨x, i, by omega, ?_, h8, h6, hm6, hS⟩⟩
    · rw [f_X0_tryOn_L17, h1.2.2, h1.1, if_neg hno]
      split <;> rfl
    · rw [f_X7_plays_L19, h2.2.2, h2.1, if_neg hno]
  | succ k ih =>
    intro n n' i p B w m x hk hi hp hn hn' hS h1 h2 hr h6 hm6 h8
    obtain ⟨n, rfl⟩ : ∃ q, n = q + 1 := ⟨n - 1, by omega⟩
    obtain ⟨n', rfl⟩ : ∃ q, n' = q + 1 := ⟨n' - 1, by omega⟩
    by_cases hpe : p = L
    · have hno : ¬ nI p < nI L := fun q => by have := (nI_ltI (by omega) (by omega)).mp q; omega
      refine ⟨w, m, ?_, ⟨rfl, rfl⟩, frP.rf m, Or.inl ⟨x, i, by omega, ?_, h8, h6, hm6, Sim_mono (by omega) hS⟩⟩
      · rw [f_X0_tryOn_L17, h1.2.2, h1.1, if_neg hno]
        split <;> rfl
      · rw [f_X7_plays_L19, h2.2.2, h2.1, if_neg hno]
    · have hlt : nI p < nI L := (nI_ltI (by omega) (by omega)).mpr (by omega)
      have h60 : nI i < 60 := (ltL (by omega) (by omega)).mpr (by omega)
      have cst : f_X0_tryOn_L17 (n + 1) (nI i) w = (f_X0_readCommand (sR w 7 (nI p))).bind fun o3 => (if o3.1 = 0 then some (0, sR o3.2 8 1) else (clsCall o3.2).bind fun o7 => (f_X6_isError o7.1 (sR o7.2 9 o7.1)).bind fun o9 => (if o9.1 = 0 then f_X0_tryOn_L17 n (nI i + 1) (sR o9.2 6 ((o9.2.1 6) + 1)) else some (0, sR o9.2 8 2))) := by
        rw [f_X0_tryOn_L17, if_pos h60, h1.2.2, h1.1, if_pos hlt]
        refine congrArg _ ?_
        funext o3
        by_cases z : o3.1 = 0
        · rw [if_pos z, if_pos z]
        · rw [if_neg z, if_neg z]
          exact cls_eq (G := fun o7 => (f_X6_isError o7.1 (sR o7.2 9 o7.1)).bind fun o9 => (if o9.1 = 0 then f_X0_tryOn_L17 n (nI i + 1) (sR o9.2 6 ((o9.2.1 6) + 1)) else some (0, sR o9.2 8 2))) o3.2
      have h1' : TxC (sR w 7 (nI p)) T L p := TxC_st h1 7 (by omega) _
      rcases reads_sim ht h1' h2 (by omega) with ⟨w1, m1, r1, r2, f1, f2⟩ | ⟨w1, m1, p', r1, r2, f1, f2, q1, q2, q3, q4, q5, q6⟩
      · obtain ⟨n'', rfl⟩ : ∃ q, n' = q + 1 := ⟨n' - 1, by omega⟩
        refine ⟨sR w1 8 1, sR (sR m1 5 0) 6 (m1.1 6 + 1), ?_, ?_, (frM_P f2).tr ((frP.st m1 (by omega) _).tr (frP.st _ (by omega) _)), Or.inr ⟨p, by omega, ?_, ?_, Or.inl ⟨rfl, rfl⟩⟩⟩
        · rw [cst, r1]
          rfl
        · exact ⟨(f1.1 0 (Or.inl rfl)).trans rfl, by show w1.2 0 = w.2 0; rw [f1.2]; rfl⟩
        · rw [f_X7_plays_L19, h2.2.2, h2.1, if_pos hlt, if_neg (by decide), r2]
          simp only [Option.bind_some, if_true]
          exact plays_0
        · exact (f1.1 7 (by omega)).trans rfl
      · have hS1 : Sim w1 (m1.2 0) B := by
          rw [f2.2 0 (by decide)]
          exact Sim_lo ((hiS.st w (by omega) _).tr (frC_hi f1)) hS
        have hr1 : ¬ m1.1 2 = 0 := by rw [f2.1 2 (by decide) (by decide)]; exact hr
        have ft1 : frT w w1 := ⟨(f1.1 0 (Or.inl rfl)).trans rfl, by rw [f1.2]; rfl⟩
        have h71 : w1.1 7 = nI p := (f1.1 7 (by omega)).trans rfl
        have h61 : w1.1 6 = nI i := (f1.1 6 (by omega)).trans h6
        have h81 : w1.1 8 = 0 := (f1.1 8 (by omega)).trans h8
        have hm61 : m1.1 6 = nI i := (f2.1 6 (by decide) (by decide)).trans hm6
        have mst : f_X7_plays_L19 (n' + 1) x 1 m = (f_X7_calls m1).bind fun o8 => (if o8.1 < (-1) then f_X7_plays_L19 n' (nI p) 0 (sR (sR o8.2 5 o8.1) 6 ((o8.2.1 6) + 1)) else f_X7_plays_L19 n' (nI p) 1 (sR (sR o8.2 5 o8.1) 6 ((o8.2.1 6) + 1))) := by
          rw [f_X7_plays_L19, h2.2.2, h2.1, if_pos hlt, if_neg (by decide), r2]
          simp only [Option.bind_some, oz, if_false]
        rcases calls_sim hS1 hr1 q5 q6 with ⟨v, v1, v2, v3⟩ | ⟨v, w2, s2, v1, v2, v3, hS2, fs⟩
        · obtain ⟨n'', rfl⟩ : ∃ q, n' = q + 1 := ⟨n' - 1, by omega⟩
          have hv : v < -1 := by
            rw [Int32.lt_iff_toInt_lt] at v1 ⊢
            have e1 : (-11 : Int32).toInt = -11 := by decide
            have e2 : (-1 : Int32).toInt = -1 := by decide
            omega
          refine ⟨sR (sR w1 9 v) 8 2, sR (sR m1 5 v) 6 (m1.1 6 + 1), ?_, ⟨ft1.1, ft1.2⟩, (frM_P f2).tr ((frP.st m1 (by omega) _).tr (frP.st _ (by omega) _)), Or.inr ⟨p, by omega, ?_, h71, Or.inr ⟨rfl, rfl, v1⟩⟩⟩
          · rw [cst, r1]
            simp only [Option.bind_some, oz, if_false]
            rw [v2]
            simp only [Option.bind_some, e_isError, v1, if_false, oz]
          · rw [mst, v3]
            simp only [Option.bind_some]
            rw [if_pos hv]
            exact plays_0
        · have h62 : w2.1 6 = nI i := (fs.1 6 (by omega)).trans h61
          have hw3 : TxC (sR (sR w2 9 v) 6 (nI (i + 1))) T L p' := by
            refine ⟨(fs.1 0 (by omega)).trans (ft1.1.trans h1.1), fun j hj => ?_, (fs.1 1 (by omega)).trans q3⟩
            show w2.2 0 j = T j
            rw [fs.2, ft1.2]
            exact h1.2.1 j hj
          have hm3 : TxM (sR (sR (sG m1 0 s2) 5 v) 6 (nI (i + 1))) T L p' := by
            refine ⟨(f2.1 3 (by decide) (by decide)).trans h2.1, fun j hj => ?_, q4⟩
            show m1.2 5 j = T j
            rw [f2.2 5 (by decide)]
            exact h2.2.1 j hj
          have hS3 : Sim (sR (sR w2 9 v) 6 (nI (i + 1))) ((sR (sR (sG m1 0 s2) 5 v) 6 (nI (i + 1))).2 0) (B + 1) := by
            show Sim (sR (sR w2 9 v) 6 (nI (i + 1))) ((sG m1 0 s2).2 0) (B + 1)
            rw [sG_2]
            exact Sim_lo ((hiS.st w2 (by omega) _).tr (hiS.st _ (by omega) _)) hS2
          obtain ⟨w', m', a1, a2, a3, a4⟩ := ih n n' (i + 1) p' (B + 1) _ _ (nI p) (by omega) (by omega) q2 (by omega) (by omega) hS3 hw3 hm3 hr1 rfl rfl ((fs.1 8 (by omega)).trans h81)
          have ftw : frT w (sR (sR w2 9 v) 6 (nI (i + 1))) := ft1.tr ⟨fs.1 0 (by omega), fs.2⟩
          have fpm : frP m (sR (sR (sG m1 0 s2) 5 v) 6 (nI (i + 1))) := (frM_P f2).tr ((frP.s0 m1 s2).tr ((frP.st _ (by omega) _).tr (frP.st _ (by omega) _)))
          have cfin : f_X0_tryOn_L17 (n + 1) (nI i) w = some (0, w') := by
            rw [cst, r1]
            simp only [Option.bind_some, oz, if_false]
            rw [v2]
            simp only [Option.bind_some, e_isError, v1.1, if_true]
            rw [show (sR w2 9 v).1 6 = nI i from h62, nI_eq_of]
            exact a1
          have mfin : f_X7_plays_L19 (n' + 1) x 1 m = f_X7_plays_L19 n' (nI p) 1 (sR (sR (sG m1 0 s2) 5 v) 6 (nI (i + 1))) := by
            rw [mst, v3]
            simp only [Option.bind_some]
            rw [if_neg v1.2, show (sG m1 0 s2).1 6 = nI i from hm61, nI_eq_of]
          refine ⟨w', m', cfin, ftw.tr a2, fpm.tr a3, ?_⟩
          rcases a4 with ⟨x', j, b1, b2, b3⟩ | ⟨q, b1, b2, b3⟩
          · rw [show B + (k + 1) = B + 1 + k by omega]
            exact Or.inl ⟨x', j, b1, mfin.trans b2, b3⟩
          · exact Or.inr ⟨q, b1, mfin.trans b2, b3⟩
