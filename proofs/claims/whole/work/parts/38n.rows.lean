/-! PURE: rows copied; the history -/
theorem cpy13_loop : ∀ (n k : Nat) (m : St), k ≤ 235 → 235 - k < n → ∃ g, f_X7_copies_13_L2 n (nI k) m = some (sG m 2 g) ∧ (∀ j, j < k → g j = m.2 2 j) ∧ ∀ j, k ≤ j → j < 235 → g j = m.2 0 j := by
  intro n
  induction n with
  | zero => intro k m _ h; omega
  | succ n ih =>
    intro k m hk hn
    by_cases h : k < 235
    · obtain ⟨g, e, h1, h2⟩ := ih (k + 1) (sG m 2 (upd (m.2 2) k (m.2 0 k))) (by omega) (by omega)
      rw [sG_sG] at e
      rw [sG_2] at h1
      refine ⟨g, ?_, fun j hj => ?_, fun j a b => ?_⟩
      · rw [f_X7_copies_13_L2]
        simp (disch := omega) only [ltL, h, if_true, ibN, clN, addR, sA]
        exact e
      · rw [h1 j (by omega), upd_ne (by omega)]
      · by_cases q : j = k
        · subst q
          rw [h1 j (by omega), upd_eq]
        · exact (h2 j (by omega) b).trans rfl
    · have h4 : k = 235 := by omega
      subst h4
      refine ⟨m.2 2, ?_, fun _ _ => rfl, fun j a b => by omega⟩
      rw [f_X7_copies_13_L2, if_neg (by decide), sG_self]
theorem cpy13 (m : St) : ∃ g, f_X7_copies_13 m = some (0, sG m 2 g) ∧ ∀ j, j < 235 → g j = m.2 0 j := by
  obtain ⟨g, e, _, h⟩ := cpy13_loop BIG 0 m (by omega) (by unfold BIG; omega)
  refine ⟨g, ?_, fun j hj => h j (Nat.zero_le j) hj⟩
  unfold f_X7_copies_13
  rw [show f_X7_copies_13_L2 BIG 0 m = some (sG m 2 g) from e]
  rfl
theorem cpy31_loop : ∀ (n k : Nat) (m : St), k ≤ 235 → 235 - k < n → ∃ g, f_X7_copies_31_L2 n (nI k) m = some (sG m 0 g) ∧ (∀ j, j < k → g j = m.2 0 j) ∧ ∀ j, k ≤ j → j < 235 → g j = m.2 2 j := by
  intro n
  induction n with
  | zero => intro k m _ h; omega
  | succ n ih =>
    intro k m hk hn
    by_cases h : k < 235
    · obtain ⟨g, e, h1, h2⟩ := ih (k + 1) (sG m 0 (upd (m.2 0) k (m.2 2 k))) (by omega) (by omega)
      rw [sG_sG] at e
      rw [sG_2] at h1
      refine ⟨g, ?_, fun j hj => ?_, fun j a b => ?_⟩
      · rw [f_X7_copies_31_L2]
        simp (disch := omega) only [ltL, h, if_true, ibN, clN, addR, sA]
        exact e
      · rw [h1 j (by omega), upd_ne (by omega)]
      · by_cases q : j = k
        · subst q
          rw [h1 j (by omega), upd_eq]
        · exact (h2 j (by omega) b).trans rfl
    · have h4 : k = 235 := by omega
      subst h4
      refine ⟨m.2 0, ?_, fun _ _ => rfl, fun j a b => by omega⟩
      rw [f_X7_copies_31_L2, if_neg (by decide), sG_self]
theorem cpy31 (m : St) : ∃ g, f_X7_copies_31 m = some (0, sG m 0 g) ∧ ∀ j, j < 235 → g j = m.2 2 j := by
  obtain ⟨g, e, _, h⟩ := cpy31_loop BIG 0 m (by omega) (by unfold BIG; omega)
  refine ⟨g, ?_, fun j hj => h j (Nat.zero_le j) hj⟩
  unfold f_X7_copies_31
  rw [show f_X7_copies_31_L2 BIG 0 m = some (sG m 0 g) from e]
  rfl
theorem cpy14_loop : ∀ (n k : Nat) (m : St), k ≤ 235 → 235 - k < n → ∃ g, f_X7_copies_14_L2 n (nI k) m = some (sG m 3 g) ∧ (∀ j, j < k → g j = m.2 3 j) ∧ ∀ j, k ≤ j → j < 235 → g j = m.2 0 j := by
  intro n
  induction n with
  | zero => intro k m _ h; omega
  | succ n ih =>
    intro k m hk hn
    by_cases h : k < 235
    · obtain ⟨g, e, h1, h2⟩ := ih (k + 1) (sG m 3 (upd (m.2 3) k (m.2 0 k))) (by omega) (by omega)
      rw [sG_sG] at e
      rw [sG_2] at h1
      refine ⟨g, ?_, fun j hj => ?_, fun j a b => ?_⟩
      · rw [f_X7_copies_14_L2]
        simp (disch := omega) only [ltL, h, if_true, ibN, clN, addR, sA]
        exact e
      · rw [h1 j (by omega), upd_ne (by omega)]
      · by_cases q : j = k
        · subst q
          rw [h1 j (by omega), upd_eq]
        · exact (h2 j (by omega) b).trans rfl
    · have h4 : k = 235 := by omega
      subst h4
      refine ⟨m.2 3, ?_, fun _ _ => rfl, fun j a b => by omega⟩
      rw [f_X7_copies_14_L2, if_neg (by decide), sG_self]
theorem cpy14 (m : St) : ∃ g, f_X7_copies_14 m = some (0, sG m 3 g) ∧ ∀ j, j < 235 → g j = m.2 0 j := by
  obtain ⟨g, e, _, h⟩ := cpy14_loop BIG 0 m (by omega) (by unfold BIG; omega)
  refine ⟨g, ?_, fun j hj => h j (Nat.zero_le j) hj⟩
  unfold f_X7_copies_14
  rw [show f_X7_copies_14_L2 BIG 0 m = some (sG m 3 g) from e]
  rfl
theorem cpy41_loop : ∀ (n k : Nat) (m : St), k ≤ 235 → 235 - k < n → ∃ g, f_X7_copies_41_L2 n (nI k) m = some (sG m 0 g) ∧ (∀ j, j < k → g j = m.2 0 j) ∧ ∀ j, k ≤ j → j < 235 → g j = m.2 3 j := by
  intro n
  induction n with
  | zero => intro k m _ h; omega
  | succ n ih =>
    intro k m hk hn
    by_cases h : k < 235
    · obtain ⟨g, e, h1, h2⟩ := ih (k + 1) (sG m 0 (upd (m.2 0) k (m.2 3 k))) (by omega) (by omega)
      rw [sG_sG] at e
      rw [sG_2] at h1
      refine ⟨g, ?_, fun j hj => ?_, fun j a b => ?_⟩
      · rw [f_X7_copies_41_L2]
        simp (disch := omega) only [ltL, h, if_true, ibN, clN, addR, sA]
        exact e
      · rw [h1 j (by omega), upd_ne (by omega)]
      · by_cases q : j = k
        · subst q
          rw [h1 j (by omega), upd_eq]
        · exact (h2 j (by omega) b).trans rfl
    · have h4 : k = 235 := by omega
      subst h4
      refine ⟨m.2 0, ?_, fun _ _ => rfl, fun j a b => by omega⟩
      rw [f_X7_copies_41_L2, if_neg (by decide), sG_self]
theorem cpy41 (m : St) : ∃ g, f_X7_copies_41 m = some (0, sG m 0 g) ∧ ∀ j, j < 235 → g j = m.2 3 j := by
  obtain ⟨g, e, _, h⟩ := cpy41_loop BIG 0 m (by omega) (by unfold BIG; omega)
  refine ⟨g, ?_, fun j hj => h j (Nat.zero_le j) hj⟩
  unfold f_X7_copies_41
  rw [show f_X7_copies_41_L2 BIG 0 m = some (sG m 0 g) from e]
  rfl
theorem cpy15_loop : ∀ (n k : Nat) (m : St), k ≤ 235 → 235 - k < n → ∃ g, f_X7_copies_15_L2 n (nI k) m = some (sG m 4 g) ∧ (∀ j, j < k → g j = m.2 4 j) ∧ ∀ j, k ≤ j → j < 235 → g j = m.2 0 j := by
  intro n
  induction n with
  | zero => intro k m _ h; omega
  | succ n ih =>
    intro k m hk hn
    by_cases h : k < 235
    · obtain ⟨g, e, h1, h2⟩ := ih (k + 1) (sG m 4 (upd (m.2 4) k (m.2 0 k))) (by omega) (by omega)
      rw [sG_sG] at e
      rw [sG_2] at h1
      refine ⟨g, ?_, fun j hj => ?_, fun j a b => ?_⟩
      · rw [f_X7_copies_15_L2]
        simp (disch := omega) only [ltL, h, if_true, ibN, clN, addR, sA]
        exact e
      · rw [h1 j (by omega), upd_ne (by omega)]
      · by_cases q : j = k
        · subst q
          rw [h1 j (by omega), upd_eq]
        · exact (h2 j (by omega) b).trans rfl
    · have h4 : k = 235 := by omega
      subst h4
      refine ⟨m.2 4, ?_, fun _ _ => rfl, fun j a b => by omega⟩
      rw [f_X7_copies_15_L2, if_neg (by decide), sG_self]
theorem cpy15 (m : St) : ∃ g, f_X7_copies_15 m = some (0, sG m 4 g) ∧ ∀ j, j < 235 → g j = m.2 0 j := by
  obtain ⟨g, e, _, h⟩ := cpy15_loop BIG 0 m (by omega) (by unfold BIG; omega)
  refine ⟨g, ?_, fun j hj => h j (Nat.zero_le j) hj⟩
  unfold f_X7_copies_15
  rw [show f_X7_copies_15_L2 BIG 0 m = some (sG m 4 g) from e]
  rfl
theorem cpy51_loop : ∀ (n k : Nat) (m : St), k ≤ 235 → 235 - k < n → ∃ g, f_X7_copies_51_L2 n (nI k) m = some (sG m 0 g) ∧ (∀ j, j < k → g j = m.2 0 j) ∧ ∀ j, k ≤ j → j < 235 → g j = m.2 4 j := by
  intro n
  induction n with
  | zero => intro k m _ h; omega
  | succ n ih =>
    intro k m hk hn
    by_cases h : k < 235
    · obtain ⟨g, e, h1, h2⟩ := ih (k + 1) (sG m 0 (upd (m.2 0) k (m.2 4 k))) (by omega) (by omega)
      rw [sG_sG] at e
      rw [sG_2] at h1
      refine ⟨g, ?_, fun j hj => ?_, fun j a b => ?_⟩
      · rw [f_X7_copies_51_L2]
        simp (disch := omega) only [ltL, h, if_true, ibN, clN, addR, sA]
        exact e
      · rw [h1 j (by omega), upd_ne (by omega)]
      · by_cases q : j = k
        · subst q
          rw [h1 j (by omega), upd_eq]
        · exact (h2 j (by omega) b).trans rfl
    · have h4 : k = 235 := by omega
      subst h4
      refine ⟨m.2 0, ?_, fun _ _ => rfl, fun j a b => by omega⟩
      rw [f_X7_copies_51_L2, if_neg (by decide), sG_self]
theorem cpy51 (m : St) : ∃ g, f_X7_copies_51 m = some (0, sG m 0 g) ∧ ∀ j, j < 235 → g j = m.2 4 j := by
  obtain ⟨g, e, _, h⟩ := cpy51_loop BIG 0 m (by omega) (by unfold BIG; omega)
  refine ⟨g, ?_, fun j hj => h j (Nat.zero_le j) hj⟩
  unfold f_X7_copies_51
  rw [show f_X7_copies_51_L2 BIG 0 m = some (sG m 0 g) from e]
  rfl
theorem chg18 : ∀ (n k : Nat) (m : St), k ≤ 705 → 705 - k < n → ∃ g, f_X7_changes_L18 n (nI k) m = some (sG m 1 g) ∧ (∀ j, j < k → g j = m.2 1 j) ∧ ∀ j, k ≤ j → j < 705 → g j = m.2 1 (j + 235) := by
  intro n
  induction n with
  | zero => intro k m _ h; omega
  | succ n ih =>
    intro k m hk hn
    by_cases h : k < 705
    · obtain ⟨g, e, h1, h2⟩ := ih (k + 1) (sG m 1 (upd (m.2 1) k (m.2 1 (k + 235)))) (by omega) (by omega)
      rw [sG_sG] at e
      rw [sG_2] at h1 h2
      refine ⟨g, ?_, fun j hj => ?_, fun j a b => ?_⟩
      · have hb1 : k + 235 < 940 := by omega
        have hb2 : k < 940 := by omega
        rw [f_X7_changes_L18]
        simp (disch := omega) only [ltL, h, if_true, addR, ibN, hb1, hb2, clN, sA]
        exact e
      · rw [h1 j (by omega), upd_ne (by omega)]
      · by_cases q : j = k
        · subst q
          rw [h1 j (by omega), upd_eq]
        · rw [h2 j (by omega) b, upd_ne (by omega)]
    · have h4 : k = 705 := by omega
      subst h4
      refine ⟨m.2 1, ?_, fun _ _ => rfl, fun j a b => by omega⟩
      rw [f_X7_changes_L18, if_neg (by decide), sG_self]
theorem chg59 {s : Nat} (hs : s < 4) : ∀ (n k : Nat) (m : St), m.1 1 = nI s → k ≤ 235 → 235 - k < n → ∃ g, f_X7_changes_L59 n (nI k) m = some (sG m 1 g) ∧ (∀ i, (i < 235 * s + k ∨ 235 * s + 235 ≤ i) → g i = m.2 1 i) ∧ ∀ j, k ≤ j → j < 235 → g (235 * s + j) = m.2 0 j := by
  intro n
  induction n with
  | zero => intro k m _ _ h; omega
  | succ n ih =>
    intro k m hm hk hn
    by_cases h : k < 235
    · obtain ⟨g, e, h1, h2⟩ := ih (k + 1) (sG m 1 (upd (m.2 1) (235 * s + k) (m.2 0 k))) hm (by omega) (by omega)
      rw [sG_sG] at e
      rw [sG_2] at h1
      refine ⟨g, ?_, fun i hi => ?_, fun j a b => ?_⟩
      · have hb1 : 235 * s + k < 940 := by omega
        rw [f_X7_changes_L59, hm]
        simp (disch := omega) only [ltL, h, if_true, mulL, nI_add, ibN, hb1, clN, sA, addR]
        exact e
      · rw [h1 i (by omega), upd_ne (by omega)]
      · by_cases q : j = k
        · subst q
          rw [h1 _ (by omega), upd_eq]
        · exact (h2 j (by omega) b).trans rfl
    · have h4 : k = 235 := by omega
      subst h4
      refine ⟨m.2 1, ?_, fun _ _ => rfl, fun j a b => by omega⟩
      rw [f_X7_changes_L59, if_neg (by decide), sG_self]
theorem undo22 {s : Nat} (hs : s < 4) : ∀ (n k : Nat) (m : St), m.1 1 = nI s → k ≤ 235 → 235 - k < n → ∃ g, f_X7_undo_L22 n (nI k) m = some (sG m 0 g) ∧ (∀ j, j < k → g j = m.2 0 j) ∧ ∀ j, k ≤ j → j < 235 → g j = m.2 1 (235 * s + j) := by
  intro n
  induction n with
  | zero => intro k m _ _ h; omega
  | succ n ih =>
    intro k m hm hk hn
    by_cases h : k < 235
    · obtain ⟨g, e, h1, h2⟩ := ih (k + 1) (sG m 0 (upd (m.2 0) k (m.2 1 (235 * s + k)))) hm (by omega) (by omega)
      rw [sG_sG] at e
      rw [sG_2] at h1
      refine ⟨g, ?_, fun j hj => ?_, fun j a b => ?_⟩
      · have hb1 : 235 * s + k < 940 := by omega
        rw [f_X7_undo_L22, hm]
        simp (disch := omega) only [ltL, h, if_true, mulL, nI_add, ibN, hb1, clN, sA, addR]
        exact e
      · rw [h1 j (by omega), upd_ne (by omega)]
      · by_cases q : j = k
        · subst q
          rw [h1 _ (by omega), upd_eq]
        · exact (h2 j (by omega) b).trans rfl
    · have h4 : k = 235 := by omega
      subst h4
      refine ⟨m.2 0, ?_, fun _ _ => rfl, fun j a b => by omega⟩
      rw [f_X7_undo_L22, if_neg (by decide), sG_self]
theorem chg_sim {m : St} {s : Nat} (hr : m.1 2 = 0) (hm : m.1 1 = nI s) (hs : s ≤ 4) : ∃ g, f_X7_changes m = some (0, sR (sG m 1 g) 1 (nI (if s = 4 then 4 else s + 1))) ∧ (∀ j, j < 235 → g (235 * (if s = 4 then 3 else s) + j) = m.2 0 j) ∧ ∀ i j, i < (if s = 4 then 3 else s) → j < 235 → g (235 * i + j) = m.2 1 (235 * (if s = 4 then i + 1 else i) + j) := by
  unfold f_X7_changes
  rw [if_pos hr, hm]
  by_cases h4 : s = 4
  · subst h4
    obtain ⟨g0, e0, _, a0⟩ := chg18 BIG 0 m (by omega) (by unfold BIG; omega)
    obtain ⟨g, e, b1, b2⟩ := chg59 (s := 3) (by omega) BIG 0 (sR (sG m 1 g0) 1 (nI 3)) rfl (by omega) (by unfold BIG; omega)
    refine ⟨g, ?_, fun j hj => ?_, fun i j hi hj => ?_⟩
    · rw [if_pos (show nI 4 = 4 from rfl), show f_X7_changes_L18 BIG 0 m = some (sG m 1 g0) from e0]
      simp only [Option.bind_some]
      rw [show (sG m 1 g0).1 1 - 1 = nI 3 by rw [show (sG m 1 g0).1 1 = nI 4 from hm]; decide, show f_X7_changes_L59 BIG 0 (sR (sG m 1 g0) 1 (nI 3)) = _ from e]
      simp only [Option.bind_some, if_true]
      refine congrArg (fun q => some ((0 : Int32), q)) ?_
      show sR (sG (sR (sG m 1 g0) 1 (nI 3)) 1 g) 1 (nI 3 + 1) = sR (sG m 1 g) 1 (nI 4)
      rw [show nI 3 + 1 = nI 4 by decide, show sG (sR (sG m 1 g0) 1 (nI 3)) 1 g = sR (sG (sG m 1 g0) 1 g) 1 (nI 3) from rfl, sG_sG, sR_sR]
    · rw [if_pos rfl]
      exact b2 j (Nat.zero_le j) hj
    · rw [if_pos rfl] at hi ⊢
      rw [b1 _ (by omega)]
      show (sG m 1 g0).2 1 (235 * i + j) = _
      rw [sG_2, a0 _ (Nat.zero_le _) (by omega), show 235 * i + j + 235 = 235 * (i + 1) + j by omega]
  · obtain ⟨g, e, b1, b2⟩ := chg59 (s := s) (by omega) BIG 0 m hm (by omega) (by unfold BIG; omega)
    refine ⟨g, ?_, fun j hj => ?_, fun i j hi hj => ?_⟩
    · rw [if_neg (show ¬ nI s = 4 from fun q => h4 ((nI_eq (a := s) (b := 4) (by omega) (by omega)).mp q)), show f_X7_changes_L59 BIG 0 m = _ from e, if_neg h4]
      simp only [Option.bind_some]
      rw [show (sG m 1 g).1 1 = nI s from hm, nI_eq_of]
    · rw [if_neg h4]
      exact b2 j (Nat.zero_le j) hj
    · rw [if_neg h4] at hi ⊢
      exact b1 _ (by omega)
theorem fm_dec : ∀ x, x < 10 → ¬ (nI x ^^^ 5) < 0 ∧ nI x - nI x / 5 * 5 = nI (x % 5) := by decide +kernel
theorem e_fm {Wt : Type} {x : Nat} (hx : x < 10) (w : Wt) : f_J9_floorMod_7cf53 (nI x) 5 w = some (nI (x % 5), w) := by
  obtain ⟨a, b⟩ := fm_dec x hx
  unfold f_J9_floorMod_7cf53
  rw [if_pos (by decide), if_neg a, b]
theorem Sim_row {w : St} {s s' : Nat → Int32} {B : Nat} (h : Sim w s B) (e : ∀ j, j < 235 → s' j = s j) : Sim w s' B := by
  obtain ⟨rw, li, ⟨hA, hP, hF, hW, hCo, hE, hRw, hG, hLi, hO, hR, hH, hN, hI⟩, hC⟩ := h
  exact ⟨rw, li, ⟨hA, gP_s (fun j hj => e _ (by omega)) hP, gF_s (fun j f hj hf => e _ (by omega)) hF, gW_s (fun j hj => e _ (by omega)) hW, gCo_s (fun j hj => e _ (by omega)) hCo, gE_s (fun j hj => e _ (by omega)) hE, gL_s (fun j hj => e _ (by omega)) hRw, hG, gL_s (fun j hj => e _ (by omega)) hLi, hO, gR_s (fun j hj => e _ (by omega)) hR, gR_s (fun j hj => e _ (by omega)) hH, gNu_s (fun j h1 h2 => e _ (by omega)) hN, hI⟩, hC⟩
