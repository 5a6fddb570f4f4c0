/-! PURE: one object goes -/
def fz (k : Nat) (v : Int32) : Int32 := if v = nI k then -1 else v
theorem fz_m1 (k : Nat) : fz k (-1) = -1 := by unfold fz; split <;> rfl
theorem lg17 {k y : Nat} (hy : y < 24) : ∀ (n f : Nat) (m : St), f ≤ 3 → 3 - f < n → ∃ s', f_X7_letsGo_L17 n (nI k) (nI y) (nI f) m = some (sG m 0 s') ∧ (∀ i, (∀ g, f ≤ g → g < 3 → i ≠ 7 * y + (1 + g)) → s' i = m.2 0 i) ∧ ∀ g, f ≤ g → g < 3 → s' (7 * y + (1 + g)) = fz k (m.2 0 (7 * y + (1 + g))) := by
  intro n
  induction n with
  | zero => intro f m _ h; omega
  | succ n ih =>
    intro f m hf hn
    by_cases h : f < 3
    · have key : f_X7_letsGo_L17 (n + 1) (nI k) (nI y) (nI f) m = f_X7_letsGo_L17 n (nI k) (nI y) (nI (f + 1)) (sG m 0 (upd (m.2 0) (7 * y + (1 + f)) (fz k (m.2 0 (7 * y + (1 + f)))))) := by
        have hof : f_X7_of (nI y) (nI (1 + f)) m = some (m.2 0 (7 * y + (1 + f)), m) := e_of (by omega)
        have hse : ∀ v, f_X7_sets (nI y) (nI (1 + f)) v m = some (0, sG m 0 (upd (m.2 0) (7 * y + (1 + f)) v)) := fun v => e_sets (by omega) v
        rw [f_X7_letsGo_L17]
        simp (disch := omega) only [ltL, h, if_true, addL, hof, Option.bind_some, hse, addR]
        unfold fz
        by_cases q : m.2 0 (7 * y + (1 + f)) = nI k
        · rw [if_pos q, if_pos q]
        · rw [if_neg q, if_neg q]
      obtain ⟨s', e, h1, h2⟩ := ih (f + 1) (sG m 0 (upd (m.2 0) (7 * y + (1 + f)) (fz k (m.2 0 (7 * y + (1 + f)))))) (by omega) (by omega)
      rw [sG_sG] at e
      rw [sG_2] at h1 h2
      refine ⟨s', key.trans e, fun i hi => ?_, fun g a b => ?_⟩
      · rw [h1 i (fun g a b => hi g (by omega) b), upd_ne (hi f (Nat.le_refl f) h)]
      · by_cases e : g = f
        · subst e
          rw [h1 _ (fun g' a b => by omega), upd_eq]
        · rw [h2 g (by omega) b, upd_ne (by omega)]
    · refine ⟨m.2 0, ?_, fun _ _ => rfl, fun g a b => by omega⟩
      have h3 : f = 3 := by omega
      subst h3
      rw [f_X7_letsGo_L17, sG_self]
      simp (disch := omega) only [ltL, if_false, Nat.lt_irrefl]
theorem lg9 {k : Nat} : ∀ (n y : Nat) (m : St), y ≤ 24 → 24 - y < n → ∃ s', f_X7_letsGo_L9 n (nI k) (nI y) m = some (sG m 0 s') ∧ (∀ i, (∀ z g, y ≤ z → z < 24 → g < 3 → i ≠ 7 * z + (1 + g)) → s' i = m.2 0 i) ∧ ∀ z g, y ≤ z → z < 24 → g < 3 → s' (7 * z + (1 + g)) = fz k (m.2 0 (7 * z + (1 + g))) := by
  intro n
  induction n with
  | zero => intro f m _ h; omega
  | succ n ih =>
    intro y m hy hn
    by_cases h : y < 24
    · obtain ⟨s1, e1, a1, a2⟩ := lg17 (k := k) h BIG 0 m (by omega) (by unfold BIG; omega)
      obtain ⟨s', e, h1, h2⟩ := ih (y + 1) (sG m 0 s1) (by omega) (by omega)
      rw [sG_sG] at e
      rw [sG_2] at h1 h2
      refine ⟨s', ?_, fun i hi => ?_, fun z g a b c => ?_⟩
      · rw [f_X7_letsGo_L9]
        simp (disch := omega) only [ltL, h, if_true, show f_X7_letsGo_L17 BIG (nI k) (nI y) 0 m = some (sG m 0 s1) from e1, Option.bind_some, addR]
        exact e
      · rw [h1 i (fun z g a b c => hi z g (by omega) b c), a1 i (fun g a b => hi y g (Nat.le_refl y) h b)]
      · by_cases e : z = y
        · subst e
          rw [h1 _ (fun z' g' a' b' c' => by omega), a2 g (Nat.zero_le g) c]
        · rw [h2 z g (by omega) b c, a1 _ (fun g' a' b' => by omega)]
    · refine ⟨m.2 0, ?_, fun _ _ => rfl, fun z g a b => by omega⟩
      have h3 : y = 24 := by omega
      subst h3
      rw [f_X7_letsGo_L9, sG_self]
      simp (disch := omega) only [ltL, if_false, Nat.lt_irrefl]
theorem lg68 {k : Nat} : ∀ (n j : Nat) (m : St), j ≤ 8 → 8 - j < n → ∃ s', f_X7_letsGo_L68 n (nI k) (nI j) m = some (sG m 0 s') ∧ (∀ i, (i < 218 + j ∨ 226 ≤ i) → s' i = m.2 0 i) ∧ ∀ i, j ≤ i → i < 8 → s' (218 + i) = fz k (m.2 0 (218 + i)) := by
  intro n
  induction n with
  | zero => intro f m _ h; omega
  | succ n ih =>
    intro j m hj hn
    by_cases h : j < 8
    · have key : f_X7_letsGo_L68 (n + 1) (nI k) (nI j) m = f_X7_letsGo_L68 n (nI k) (nI (j + 1)) (sG m 0 (upd (m.2 0) (218 + j) (fz k (m.2 0 (218 + j))))) := by
        have h235 : 218 + j < 235 := by omega
        rw [f_X7_letsGo_L68]
        simp (disch := omega) only [ltL, h, if_true, addL, ibN, clN, h235, addR, sA]
        unfold fz
        by_cases q : m.2 0 (218 + j) = nI k
        · rw [if_pos q, if_pos q]
        · rw [if_neg q, if_neg q]
      obtain ⟨s', e, h1, h2⟩ := ih (j + 1) (sG m 0 (upd (m.2 0) (218 + j) (fz k (m.2 0 (218 + j))))) (by omega) (by omega)
      rw [sG_sG] at e
      rw [sG_2] at h1 h2
      refine ⟨s', key.trans e, fun i hi => ?_, fun g a b => ?_⟩
      · rw [h1 i (by omega), upd_ne (by omega)]
      · by_cases e : g = j
        · subst e
          rw [h1 _ (by omega), upd_eq]
        · rw [h2 g (by omega) b, upd_ne (by omega)]
    · refine ⟨m.2 0, ?_, fun _ _ => rfl, fun g a b => by omega⟩
      have h3 : j = 8 := by omega
      subst h3
      rw [f_X7_letsGo_L68, sG_self]
      simp (disch := omega) only [ltL, if_false, Nat.lt_irrefl]
theorem fg7 {k : Nat} : ∀ (n j : Nat) (w : St), j ≤ 72 → 72 - j < n → ∃ F', f_X1_forget_7_L2 n (nI k) (nI j) w = some (sG w 1 F') ∧ ∀ i, F' i = if j ≤ i ∧ i < 72 then fz k (w.2 1 i) else w.2 1 i := by
  intro n
  induction n with
  | zero => intro f m _ h; omega
  | succ n ih =>
    intro j w hj hn
    by_cases h : j < 72
    · by_cases q : w.2 1 j = nI k
      · obtain ⟨F', e, h1⟩ := ih (j + 1) (sG w 1 (upd (w.2 1) j (-1))) (by omega) (by omega)
        rw [sG_sG] at e
        rw [sG_2] at h1
        refine ⟨F', ?_, fun i => ?_⟩
        · rw [f_X1_forget_7_L2]
          simp (disch := omega) only [ltL, h, if_true, ibN, clN, addR, sA, q]
          exact e
        · rw [h1 i]
          by_cases e : i = j
          · subst e
            rw [if_neg (by omega), upd_eq, if_pos ⟨Nat.le_refl _, h⟩, q]
            unfold fz
            rw [if_pos rfl]
          · rw [upd_ne e]
            by_cases z : j + 1 ≤ i ∧ i < 72
            · rw [if_pos z, if_pos ⟨by omega, z.2⟩]
            · rw [if_neg z, if_neg (by omega)]
      · obtain ⟨F', e, h1⟩ := ih (j + 1) w (by omega) (by omega)
        refine ⟨F', ?_, fun i => ?_⟩
        · rw [f_X1_forget_7_L2]
          simp (disch := omega) only [ltL, h, if_true, ibN, clN, addR, q, if_false]
          exact e
        · rw [h1 i]
          by_cases e : i = j
          · subst e
            rw [if_neg (by omega), if_pos ⟨Nat.le_refl _, h⟩]
            unfold fz
            rw [if_neg q]
          · by_cases z : j + 1 ≤ i ∧ i < 72
            · rw [if_pos z, if_pos ⟨by omega, z.2⟩]
            · rw [if_neg z, if_neg (by omega)]
    · have h3 : j = 72 := by omega
      subst h3
      refine ⟨w.2 1, ?_, fun i => by rw [if_neg (by omega)]⟩
      rw [f_X1_forget_7_L2, sG_self]
      simp (disch := omega) only [ltL, if_false, Nat.lt_irrefl]
theorem fg9 {k : Nat} : ∀ (n j : Nat) (w : St), j ≤ 4 → 4 - j < n → ∃ F', f_X1_forget_9_L2 n (nI k) (nI j) w = some (sG w 3 F') ∧ ∀ i, F' i = if j ≤ i ∧ i < 4 then fz k (w.2 3 i) else w.2 3 i := by
  intro n
  induction n with
  | zero => intro f m _ h; omega
  | succ n ih =>
    intro j w hj hn
    by_cases h : j < 4
    · by_cases q : w.2 3 j = nI k
      · obtain ⟨F', e, h1⟩ := ih (j + 1) (sG w 3 (upd (w.2 3) j (-1))) (by omega) (by omega)
        rw [sG_sG] at e
        rw [sG_2] at h1
        refine ⟨F', ?_, fun i => ?_⟩
        · rw [f_X1_forget_9_L2]
          simp (disch := omega) only [ltL, h, if_true, ibN, clN, addR, sA, q]
          exact e
        · rw [h1 i]
          by_cases e : i = j
          · subst e
            rw [if_neg (by omega), upd_eq, if_pos ⟨Nat.le_refl _, h⟩, q]
            unfold fz
            rw [if_pos rfl]
          · rw [upd_ne e]
            by_cases z : j + 1 ≤ i ∧ i < 4
            · rw [if_pos z, if_pos ⟨by omega, z.2⟩]
            · rw [if_neg z, if_neg (by omega)]
      · obtain ⟨F', e, h1⟩ := ih (j + 1) w (by omega) (by omega)
        refine ⟨F', ?_, fun i => ?_⟩
        · rw [f_X1_forget_9_L2]
          simp (disch := omega) only [ltL, h, if_true, ibN, clN, addR, q, if_false]
          exact e
        · rw [h1 i]
          by_cases e : i = j
          · subst e
            rw [if_neg (by omega), if_pos ⟨Nat.le_refl _, h⟩]
            unfold fz
            rw [if_neg q]
          · by_cases z : j + 1 ≤ i ∧ i < 4
            · rw [if_pos z, if_pos ⟨by omega, z.2⟩]
            · rw [if_neg z, if_neg (by omega)]
    · have h3 : j = 4 := by omega
      subst h3
      refine ⟨w.2 3, ?_, fun i => by rw [if_neg (by omega)]⟩
      rw [f_X1_forget_9_L2, sG_self]
      simp (disch := omega) only [ltL, if_false, Nat.lt_irrefl]
theorem lg32 {k : Nat} (hk : k < 24) : ∀ (n f : Nat) (w : St), f ≤ 3 → 3 - f < n → ∃ F', f_X1_letGo_L32 n (nI k) (nI f) w = some (sG w 1 F') ∧ (∀ i, (∀ g, f ≤ g → g < 3 → i ≠ 3 * k + g) → F' i = w.2 1 i) ∧ ∀ g, f ≤ g → g < 3 → F' (3 * k + g) = -1 := by
  intro n
  induction n with
  | zero => intro f m _ h; omega
  | succ n ih =>
    intro f w hf hn
    by_cases h : f < 3
    · obtain ⟨F', e, h1, h2⟩ := ih (f + 1) (sG w 1 (upd (w.2 1) (3 * k + f) (-1))) (by omega) (by omega)
      rw [sG_sG] at e
      rw [sG_2] at h1
      refine ⟨F', ?_, fun i hi => ?_, fun g a b => ?_⟩
      · rw [f_X1_letGo_L32]
        simp (disch := omega) only [ltL, h, if_true, e_setField hk h, Option.bind_some, addR]
        exact e
      · rw [h1 i (fun g a b => hi g (by omega) b), upd_ne (hi f (Nat.le_refl f) h)]
      · by_cases e : g = f
        · subst e
          rw [h1 _ (fun g' a b => by omega), upd_eq]
        · exact h2 g (by omega) b
    · have h3 : f = 3 := by omega
      subst h3
      refine ⟨w.2 1, ?_, fun _ _ => rfl, fun g a b => by omega⟩
      rw [f_X1_letGo_L32, sG_self]
      simp (disch := omega) only [ltL, if_false, Nat.lt_irrefl]
theorem letGo_F {k : Nat} (hk : k < 24) (w : St) : ∃ F' H', f_X1_letGo (nI k) w = some (0, sG (sG (sR (sR w 13 (w.1 13 &&& (bI (nI k) ^^^ (-1)))) 14 (w.1 14 &&& (bI (nI k) ^^^ (-1)))) 1 F') 3 H') ∧ (∀ y f, y < 24 → f < 3 → F' (3 * y + f) = if y = k then -1 else fz k (w.2 1 (3 * y + f))) ∧ ∀ j, j < 4 → H' j = fz k (w.2 3 j) := by
  obtain ⟨F1, e1, a1, a2⟩ := lg32 hk BIG 0 (sR (sR w 13 (w.1 13 &&& (bI (nI k) ^^^ (-1)))) 14 (w.1 14 &&& (bI (nI k) ^^^ (-1)))) (by omega) (by unfold BIG; omega)
  obtain ⟨F2, e2, b1⟩ := fg7 (k := k) BIG 0 (sG (sR (sR w 13 (w.1 13 &&& (bI (nI k) ^^^ (-1)))) 14 (w.1 14 &&& (bI (nI k) ^^^ (-1)))) 1 F1) (by omega) (by unfold BIG; omega)
  rw [sG_sG] at e2
  rw [sG_2] at b1
  obtain ⟨H', e3, c1⟩ := fg9 (k := k) BIG 0 (sG (sR (sR w 13 (w.1 13 &&& (bI (nI k) ^^^ (-1)))) 14 (w.1 14 &&& (bI (nI k) ^^^ (-1)))) 1 F2) (by omega) (by unfold BIG; omega)
  refine ⟨F2, H', ?_, fun y f hy hf => ?_, fun j hj => ?_⟩
  · unfold f_X1_letGo f_X1_forget_7 f_X1_forget_9
    simp only [e_bit, Option.bind_some]
    rw [show f_X1_letGo_L32 BIG (nI k) 0 (sR (sR w 13 (w.1 13 &&& (bI (nI k) ^^^ (-1)))) 14 (w.1 14 &&& (bI (nI k) ^^^ (-1)))) = some (sG (sR (sR w 13 (w.1 13 &&& (bI (nI k) ^^^ (-1)))) 14 (w.1 14 &&& (bI (nI k) ^^^ (-1)))) 1 F1) from e1]
    simp only [Option.bind_some]
    rw [show f_X1_forget_7_L2 BIG (nI k) 0 (sG (sR (sR w 13 (w.1 13 &&& (bI (nI k) ^^^ (-1)))) 14 (w.1 14 &&& (bI (nI k) ^^^ (-1)))) 1 F1) = some (sG (sR (sR w 13 (w.1 13 &&& (bI (nI k) ^^^ (-1)))) 14 (w.1 14 &&& (bI (nI k) ^^^ (-1)))) 1 F2) from e2]
    simp only [Option.bind_some]
    rw [show f_X1_forget_9_L2 BIG (nI k) 0 (sG (sR (sR w 13 (w.1 13 &&& (bI (nI k) ^^^ (-1)))) 14 (w.1 14 &&& (bI (nI k) ^^^ (-1)))) 1 F2) = _ from e3]
    rfl
  · rw [b1, if_pos (by omega)]
    by_cases e : y = k
    · subst e
      rw [a2 f (Nat.zero_le f) hf, if_pos rfl, fz_m1]
    · rw [if_neg e, a1 _ (fun g a b => by omega)]
      rfl
  · rw [c1, if_pos ⟨Nat.zero_le j, hj⟩]
    rfl
