/-! PURE: weak holders emptied; what wants to be finished found -/
theorem upd_self (s : Nat → Int32) (i : Nat) : upd s i (s i) = s := by
  funext j
  unfold upd
  split
  · next h => rw [h]
  · rfl
def whI (w : Nat → Int32) : Int32 := (w 13) &&& (((w 16) ||| (w 17)) ^^^ (-1))
theorem e_white (w : St) : f_X4_whiteOnes w = some (whI w.1, w) := rfl
theorem tb_wh (w : Nat → Int32) {k : Nat} (hk : k < 32) : tb (whI w) k = true ↔ tb (w 13) k = true ∧ ¬ nw (w 16) (w 17) k := by
  unfold whI nw
  rw [tb_and, tb_not _ hk, tb_or, Bool.and_eq_true]
  cases tb (w 16) k <;> cases tb (w 17) k <;> simp
theorem S24_wh {w : Nat → Int32} (h : S24 (w 13)) : S24 (whI w) := S24_and h
theorem bI_and {x : Int32} {k : Nat} (hk : k < 24) : bI (nI k) &&& x = 0 ↔ tb x k = false := by
  rw [← and_bI hk, Int32.and_comm]
theorem col_0 {p g b : Int32} {s : Nat → Int32} (h : gCo p g b s) {k : Nat} (hk : k < 24) (hp : tb p k = true) : s (7 * k + 5) = 0 ↔ ¬ nw g b k := by
  rw [h k hk hp]
  unfold nw
  cases tb b k <;> cases tb g k <;> simp <;> decide
theorem clears_loop {B : Nat} {ex rw li : List Nat} (x : Int32) : ∀ (n j : Nat) (w m : St), j ≤ 4 → 4 - j < n → SimB w (m.2 0) B ex rw li → (∀ k, k < 24 → (tb x k = true ↔ tb (w.1 13) k = true ∧ ¬ nw (w.1 16) (w.1 17) k)) →
    ∃ H' s', f_X1_emptyHoldersOf_L2 n x (nI j) w = some (sG w 3 H') ∧ f_X7_clears_L2 n (nI j) m = some (sG m 0 s') ∧ SimB (sG w 3 H') s' B ex rw li ∧ (∀ i, i < j → H' i = w.2 3 i) ∧ ∀ i, j ≤ i → i < 4 → (H' i = w.2 3 i ∧ ∀ k, k < 24 → w.2 3 i = nI k → nw (w.1 16) (w.1 17) k) ∨ H' i = -1 := by
  intro n
  induction n with
  | zero => intro j w m _ h; omega
  | succ n ih =>
    intro j w m hj hn hS hx
    by_cases h : j < 4
    · have hH := hS.2.2.2.2.2.2.2.2.2.2.2.1 j h
      have h235 : 222 + j < 235 := by omega
      have keep : ∀ (hv : ∀ k, k < 24 → w.2 3 j = nI k → nw (w.1 16) (w.1 17) k), f_X1_emptyHoldersOf_L2 (n + 1) x (nI j) w = f_X1_emptyHoldersOf_L2 n x (nI (j + 1)) w → f_X7_clears_L2 (n + 1) (nI j) m = f_X7_clears_L2 n (nI (j + 1)) m →
          ∃ H' s', f_X1_emptyHoldersOf_L2 (n + 1) x (nI j) w = some (sG w 3 H') ∧ f_X7_clears_L2 (n + 1) (nI j) m = some (sG m 0 s') ∧ SimB (sG w 3 H') s' B ex rw li ∧ (∀ i, i < j → H' i = w.2 3 i) ∧ ∀ i, j ≤ i → i < 4 → (H' i = w.2 3 i ∧ ∀ k, k < 24 → w.2 3 i = nI k → nw (w.1 16) (w.1 17) k) ∨ H' i = -1 := by
        intro hv e1 e2
        obtain ⟨H', s', e3, e4, hS', h1, h2⟩ := ih (j + 1) w m (by omega) (by omega) hS hx
        refine ⟨H', s', e1.trans e3, e2.trans e4, hS', fun i hi => h1 i (by omega), fun i a b => ?_⟩
        by_cases e : i = j
        · subst e; exact Or.inl ⟨h1 i (by omega), hv⟩
        · exact h2 i (by omega) b
      rcases hH.1 with hv | ⟨k, hk, hv, hp⟩
      · refine keep (fun k hk e => absurd (hv.symm.trans e).symm (nI_ne_m1 (by omega))) ?_ ?_
        · rw [f_X1_emptyHoldersOf_L2]
          simp (disch := omega) only [ltL, h, if_true, ibN, clN, hv, e_bit, Option.bind_some, bI_m1, addR]
          rw [if_pos (by rw [Int32.and_comm]; exact and_0 x)]
        · rw [f_X7_clears_L2]
          simp (disch := omega) only [ltL, h, if_true, addL, ibN, clN, h235, hH.2, hv, addR, sA]
          rw [if_pos (by decide), ← hv, ← hH.2, upd_self, sG_self]
      · by_cases hw : nw (w.1 16) (w.1 17) k
        · refine keep (fun k' hk' e => by rw [← nI_inj (by omega) (by omega) (hv.symm.trans e)]; exact hw) ?_ ?_
          · have hz : tb x k = false := by
              cases q : tb x k
              · rfl
              · exact absurd hw ((hx k hk).mp q).2
            rw [f_X1_emptyHoldersOf_L2]
            simp (disch := omega) only [ltL, h, if_true, ibN, clN, hv, e_bit, Option.bind_some, (bI_and hk).mpr hz, addR]
          · have hz : ¬ m.2 0 (7 * k + 5) = 0 := fun q => ((col_0 hS.2.2.2.2.1 hk hp).mp q) hw
            have hn0 : ¬ nI k < 0 := nI_pos (by omega)
            rw [f_X7_clears_L2]
            simp (disch := omega) only [ltL, h, if_true, addL, ibN, clN, h235, hH.2, hv, hn0, if_false, e_of5 hk, Option.bind_some, hz, addR, sA]
            rw [← hv, ← hH.2, upd_self, sG_self]
        · have hS1 := holder_set hS h (to := -1) (Or.inl rfl)
          obtain ⟨H', s', e3, e4, hS', h1, h2⟩ := ih (j + 1) (sG w 3 (upd (w.2 3) j (-1))) (sG m 0 (upd (m.2 0) (222 + j) (-1))) (by omega) (by omega) (by rw [sG_2]; exact hS1) hx
          rw [sG_sG] at e3 e4 hS'
          rw [sG_2] at h1 h2
          refine ⟨H', s', ?_, ?_, hS', fun i hi => (h1 i (by omega)).trans (upd_ne (by omega)), fun i a b => ?_⟩
          · have hz : ¬ bI (nI k) &&& x = 0 := fun q => by
              have := (bI_and hk).mp q
              rw [(hx k hk).mpr ⟨hp, hw⟩] at this
              cases this
            rw [f_X1_emptyHoldersOf_L2]
            simp (disch := omega) only [ltL, h, if_true, ibN, clN, hv, e_bit, Option.bind_some, hz, if_false, addR, sA]
            exact e3
          · have hz : m.2 0 (7 * k + 5) = 0 := (col_0 hS.2.2.2.2.1 hk hp).mpr hw
            have hn0 : ¬ nI k < 0 := nI_pos (by omega)
            rw [f_X7_clears_L2]
            simp (disch := omega) only [ltL, h, if_true, addL, ibN, clN, h235, hH.2, hv, hn0, if_false, e_of5 hk, Option.bind_some, hz, addR, sA]
            exact e4
          · by_cases e : i = j
            · subst e; exact Or.inr ((h1 i (by omega)).trans (upd_eq _ _ _))
            · have := h2 i (by omega) b
              rw [upd_ne e] at this
              exact this
    · have h4 : j = 4 := by omega
      subst h4
      refine ⟨w.2 3, m.2 0, ?_, ?_, by rw [sG_self]; exact hS, fun _ _ => rfl, fun i a b => by omega⟩
      · rw [f_X1_emptyHoldersOf_L2, sG_self]
        simp (disch := omega) only [ltL, if_false, Nat.lt_irrefl]
      · rw [f_X7_clears_L2, sG_self]
        simp (disch := omega) only [ltL, if_false, Nat.lt_irrefl]
theorem clears_sim {w m : St} {B : Nat} {ex rw li : List Nat} (h : SimB w (m.2 0) B ex rw li) : ∃ H' s', f_X1_emptyHoldersOf (whI w.1) w = some (0, sG w 3 H') ∧ f_X7_clears m = some (0, sG m 0 s') ∧ SimB (sG w 3 H') s' B ex rw li ∧ ∀ k, k < 24 → rootS H' k → rootS (w.2 3) k ∧ nw (w.1 16) (w.1 17) k := by
  obtain ⟨H', s', e1, e2, hS, _, h2⟩ := clears_loop (whI w.1) BIG 0 w m (by omega) (by unfold BIG; omega) h (fun k hk => tb_wh w.1 (by omega))
  refine ⟨H', s', ?_, ?_, hS, fun k hk q => ?_⟩
  · unfold f_X1_emptyHoldersOf
    rw [show f_X1_emptyHoldersOf_L2 BIG (whI w.1) 0 w = some (sG w 3 H') from e1]
    rfl
  · unfold f_X7_clears
    rw [show f_X7_clears_L2 BIG 0 m = some (sG m 0 s') from e2]
    rfl
  · obtain ⟨i, hi, e⟩ := q
    rcases h2 i (Nat.zero_le _) hi with ⟨a, b⟩ | a
    · rw [a] at e
      exact ⟨⟨i, hi, e⟩, b k hk e⟩
    · rw [a] at e; exact absurd e.symm (nI_ne_m1 (by omega))
/-- the lowest white one that wants it, in the model -/
theorem sub1_m (j : Nat) : nI (j + 1) + (-1) = nI j := by
  have := nI_pred j
  rw [← this, Int32.sub_eq_add_neg]
theorem look_loop {w m : St} {B : Nat} {ex rw li : List Nat} (hS : SimB w (m.2 0) B ex rw li) : ∀ (n j : Nat) (x : Int32), j < 24 → j + 1 < n → ∃ r, f_X7_looksForFinish_L5 n x (nI j) m = some (r, m) ∧ ((∃ k, k ≤ j ∧ tb (whI w.1 &&& w.1 14) k = true ∧ (∀ i, i < k → tb (whI w.1 &&& w.1 14) i = false) ∧ r = nI k) ∨ (r = x ∧ ∀ i, i ≤ j → tb (whI w.1 &&& w.1 14) i = false)) := by
  obtain ⟨hA, hP, hF, hW, hCo, hE, hRw, hG, hLi, hO, hR, hH, hN, hI⟩ := hS
  intro n
  induction n with
  | zero => intro j x _ h; omega
  | succ n ih =>
    intro j x hj hn
    have hgood : tb (whI w.1 &&& w.1 14) j = true ↔ tb (w.1 13) j = true ∧ ¬ nw (w.1 16) (w.1 17) j ∧ tb (w.1 14) j = true := by
      rw [tb_and, Bool.and_eq_true, tb_wh w.1 (by omega)]
      exact and_assoc
    have hn0 : ¬ nI j < 0 := nI_pos (by omega)
    have key : f_X7_looksForFinish_L5 (n + 1) x (nI j) m = f_X7_looksForFinish_L5 n (if tb (whI w.1 &&& w.1 14) j then nI j else x) (nI j + (-1)) m := by
      rw [f_X7_looksForFinish_L5, if_neg hn0, e_isObject hP, hasI_nI hj]
      cases hp : tb (w.1 13) j
      · have hg : tb (whI w.1 &&& w.1 14) j = false := by
          cases q : tb (whI w.1 &&& w.1 14) j
          · rfl
          · rw [(hgood.mp q).1] at hp; cases hp
        simp only [hg, Bool.false_eq_true, if_false, Option.bind_some, if_true]
      · simp only [if_true, Option.bind_some, oz, if_false, e_of5 hj, e_of4 hj]
        by_cases hw : m.2 0 (7 * j + 5) = 0
        · have hnw := (col_0 hCo hj hp).mp hw
          rw [if_pos hw, hW j hj hp]
          cases q : tb (w.1 14) j
          · have hg : tb (whI w.1 &&& w.1 14) j = false := by
              cases q2 : tb (whI w.1 &&& w.1 14) j
              · rfl
              · rw [(hgood.mp q2).2.2] at q; cases q
            rw [hg]
            simp only [Bool.false_eq_true, if_false]
            rw [if_neg (by decide)]
          · have hg : tb (whI w.1 &&& w.1 14) j = true := hgood.mpr ⟨hp, hnw, q⟩
            rw [hg]
            simp only [if_true]
        · have hg : tb (whI w.1 &&& w.1 14) j = false := by
            cases q : tb (whI w.1 &&& w.1 14) j
            · rfl
            · exact absurd ((col_0 hCo hj hp).mpr (hgood.mp q).2.1) hw
          rw [if_neg hw, hg]
          simp only [Bool.false_eq_true, if_false]
    rw [key]
    cases j with
    | zero =>
      obtain ⟨n', rfl⟩ : ∃ n', n = n' + 1 := ⟨n - 1, by omega⟩
      rw [show nI 0 + (-1) = -1 by decide, f_X7_looksForFinish_L5, if_pos (by decide)]
      cases q : tb (whI w.1 &&& w.1 14) 0
      · exact ⟨x, rfl, Or.inr ⟨rfl, fun i hi => by rw [show i = 0 by omega]; exact q⟩⟩
      · exact ⟨nI 0, rfl, Or.inl ⟨0, Nat.le_refl 0, q, fun i hi => by omega, rfl⟩⟩
    | succ j =>
      rw [sub1_m]
      obtain ⟨r, e, hr⟩ := ih j (if tb (whI w.1 &&& w.1 14) (j + 1) then nI (j + 1) else x) (by omega) (by omega)
      refine ⟨r, e, ?_⟩
      rcases hr with ⟨k, h1, h2, h3, h4⟩ | ⟨h1, h2⟩
      · exact Or.inl ⟨k, by omega, h2, h3, h4⟩
      · cases q : tb (whI w.1 &&& w.1 14) (j + 1)
        · rw [q] at h1
          refine Or.inr ⟨h1, fun i hi => ?_⟩
          by_cases e : i = j + 1
          · subst e; exact q
          · exact h2 i (by omega)
        · rw [q] at h1
          exact Or.inl ⟨j + 1, Nat.le_refl _, q, fun i hi => h2 i (by omega), h1⟩
