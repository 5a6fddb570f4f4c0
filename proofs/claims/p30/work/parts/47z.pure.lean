/-! PURE: the first states, and the law -/
def s0M : Nat → Int32 := fun k => if 218 ≤ k ∧ k < 226 then -1 else if k = 234 then 1 else 0
theorem gL_0 {s : Nat → Int32} {base : Nat} (h : s base = 0) : gL 0 (fun _ => (0 : Int32)) [] s base := ⟨⟨rfl, by decide, fun j hj => absurd hj (Nat.not_lt_zero j)⟩, h, fun j hj => absurd hj (Nat.not_lt_zero j)⟩
theorem s0_P : ∀ k, k < 24 → s0M (7 * k) = 0 := by decide +kernel
theorem s0_R : ∀ j, j < 8 → s0M (218 + j) = -1 := by decide +kernel
theorem s0_L : ∀ j, j < 24 → s0M (194 + j) = 0 ∧ s0M (169 + j) = 0 := by decide +kernel
theorem sim_0 : Sim stI s0M 0 := by
  have nt : ∀ k, tb (0 : Int32) k = true → False := fun k q => by rw [tb_0] at q; cases q
  refine ⟨[], [], ⟨⟨S24_0, S24_0, S24_0, S24_0, fun k q => (nt k q).elim, fun k q => (nt k q).elim, fun k q => (nt k q).elim, fun k q => (nt k q).elim⟩, fun k hk => ?_, fun k f hk hf => ⟨Or.inl rfl, fun q => (nt k q).elim, fun _ => rfl⟩, fun k hk q => (nt k q).elim, fun k hk q => (nt k q).elim, fun k hk q => (nt k q).elim, gL_0 (by decide +kernel), ⟨List.nodup_nil, fun k => ⟨fun q => (by cases q), fun q => (nt k q).elim⟩⟩, gL_0 (by decide +kernel), ⟨List.nodup_nil, fun k q => by cases q⟩, fun j hj => ⟨Or.inl rfl, s0_R j (by omega)⟩, fun j hj => ⟨Or.inl rfl, ?_⟩, ⟨?_, ?_, ?_, ?_, ?_, ?_, ?_, ?_, ?_⟩, Or.inl rfl, Or.inl rfl, ⟨0, by omega, rfl⟩, 0, by omega, rfl⟩, fun _ => ⟨rfl, rfl⟩, fun q => ?_, fun q => ?_⟩
  · show s0M (7 * k) = if tb 0 k then 1 else 0
    rw [tb_0, s0_P k hk]
    rfl
  · have := s0_R (4 + j) (by omega)
    rw [show 218 + (4 + j) = 222 + j by omega] at this
    exact this
  · show s0M 226 = 0; decide +kernel
  · show s0M 227 = 0; decide +kernel
  · show s0M 228 = 0; decide +kernel
  · show s0M 229 = 0; decide +kernel
  · show s0M 230 = 0; decide +kernel
  · show s0M 231 = 0; decide +kernel
  · show s0M 232 = 0; decide +kernel
  · show s0M 233 = 0; decide +kernel
  · show s0M 234 = 1; decide +kernel
  · have : (0 : Int32) = 1 ∨ (0 : Int32) = 2 := q
    exact absurd this (by decide)
  · have : (0 : Int32) = 3 := q
    exact absurd this (by decide)
theorem relC_0 : RelC t0 s0M 0 := ⟨⟨0, 0, by omega, by omega, rfl, rfl⟩, rfl, sim_0⟩
theorem bal_0 : Bal s0M := by unfold Bal cntP; decide +kernel
theorem en_0 {m : St} (h2 : ∀ j, j < 24 → m.2 2 j = -1) (h7 : ∀ j, j < 8 → m.2 7 j = -1) (h0 : m.2 0 = upd (fun _ => 0) 8 1) (h1 : m.2 1 = fun _ => 0) (h5 : m.2 5 = fun _ => 0) (h6 : m.2 6 = fun _ => 0) : En m s0M := by
  refine ⟨fun k hk => ⟨?_, fun q => ?_⟩, fun k hk => ⟨fun _ => 0, fun i hi => Nat.zero_le _, ?_, fun q => ?_⟩, fun j hj => ?_, fun j hj => ?_, ?_⟩
  · rw [h2 k hk, s0_P k hk, if_pos (by decide)]
  · rw [h2 k hk] at q; exact absurd (by decide) q
  · rw [h1]; rfl
  · rw [h2 k hk] at q; exact absurd (by decide) q
  · rw [h5, h6]; exact s0_L j hj
  · rw [h7 j hj]; exact s0_R j hj
  · rw [h0]
    refine ⟨?_, fun q => ?_, ?_, ?_, ?_, ?_, ?_, ?_, ?_, ?_, ?_⟩
    · show s0M 226 = 0; decide +kernel
    · show s0M 227 = 0; decide +kernel
    · show s0M 228 = 0; decide +kernel
    · show s0M 229 = 0; decide +kernel
    · show s0M 230 = 0; decide +kernel
    · show s0M 231 = 0; decide +kernel
    · show s0M 232 = 0; decide +kernel
    · show s0M 233 = 0; decide +kernel
    · show s0M 234 = 1; decide +kernel
    · show s0M 193 = 0; decide +kernel
    · show s0M 168 = 0; decide +kernel
theorem L62_run (t : TT) : ∀ (n k : Nat) (m : St), k ≤ 24 → 24 - k < n → (∀ j, j < k → m.2 2 j = -1) → (∀ j, j < 8 → j < k → m.2 7 j = -1) → ∃ m', f_L_law_L62 n (nI k) (t, m) = some (t, m') ∧ (∀ j, j < 24 → m'.2 2 j = -1) ∧ (∀ j, j < 8 → m'.2 7 j = -1) ∧ ∀ a, a ≠ 2 → a ≠ 7 → m'.2 a = m.2 a := by
  intro n
  induction n with
  | zero => intro k m _ h; omega
  | succ n ih =>
    intro k m hk hn h2 h7
    by_cases h : k < 24
    · have hr : nI k - nI k / 8 * 8 = nI (k % 8) := remL (by omega) (by omega) (by omega)
      have hm : k % 8 < 8 := Nat.mod_lt _ (by omega)
      have e2 : (sA (sA m 2 (nI k) (-1)) 7 (nI (k % 8)) (-1)).2 2 = upd (m.2 2) k (-1) := by
        rw [sA_nI _ _ _ (by omega), sA_nI _ _ _ (by omega)]; rfl
      have e7 : (sA (sA m 2 (nI k) (-1)) 7 (nI (k % 8)) (-1)).2 7 = upd (m.2 7) (k % 8) (-1) := by
        rw [sA_nI _ _ _ (by omega), sA_nI _ _ _ (by omega)]; rfl
      obtain ⟨m', e, a2, a7, ao⟩ := ih (k + 1) (sA (sA m 2 (nI k) (-1)) 7 (nI (k % 8)) (-1)) (by omega) (by omega)
        (fun j hj => by
          rw [e2]
          by_cases q : j = k
          · subst q; exact upd_eq _ _ _
          · rw [upd_ne q]; exact h2 j (by omega))
        (fun j hj hj2 => by
          rw [e7]
          by_cases q : j = k % 8
          · rw [q]; exact upd_eq _ _ _
          · rw [upd_ne q]; exact h7 j hj (by omega))
      refine ⟨m', ?_, a2, a7, fun a q2 q7 => ?_⟩
      · rw [f_L_law_L62, if_pos ((ltL (by omega) (by omega)).mpr h), if_pos (ib24 h), hr, if_pos ((ibN (by omega)).mpr hm), addR]
        exact e
      · rw [ao a q2 q7, sA_nI _ _ _ (by omega), sA_nI _ _ _ (by omega)]
        show ua (ua m.2 2 _) 7 _ a = _
        unfold ua
        rw [if_neg q7, if_neg q2]
    · have h4 : k = 24 := by omega
      subst h4
      refine ⟨m, ?_, fun j hj => h2 j hj, fun j hj => h7 j hj (by omega), fun _ _ _ => rfl⟩
      rw [f_L_law_L62, if_neg (by decide)]
theorem e_cell {L : Nat} (hL : L ≤ 260) (xs : Nat → Int32) {k : Nat} (hk : k < 1000) : ∃ v, f_cell L xs (nI k) = some v := by
  unfold f_cell
  by_cases h : k < L
  · rw [if_pos ((show nI k < Int32.ofNat L ↔ k < L from nI_ltI (by omega) (by omega)).mpr h), if_pos ((ibN (by omega)).mpr h)]
    exact ⟨_, rfl⟩
  · rw [if_neg (fun q => h ((show nI k < Int32.ofNat L ↔ k < L from nI_ltI (by omega) (by omega)).mp q))]
    exact ⟨_, rfl⟩
theorem rv_20 (s : Nat → Int32) : f_X7_refers 2 0 (mkM s) = some (-11, mkM s) := by
  unfold f_X7_refers
  rw [e_in, show inI 2 0 1 = 0 by decide, Option.bind_some]
  dsimp only
  rw [if_pos rfl]
theorem rv_04 (s : Nat → Int32) : f_X7_refers 0 4 (mkM s) = some (-11, mkM s) := by
  unfold f_X7_refers
  rw [e_in, show inI 0 0 1 = 1 by decide, Option.bind_some]
  dsimp only
  rw [if_neg (by decide), e_isRoot, show isI 4 4 = 0 by decide, Option.bind_some]
  dsimp only
  rw [if_pos rfl]
theorem law_end {p : JT} {B : Nat} (hB : B < 2147483648) (h : InvJ p B) : ∃ t' : TT × TT × TT, f_X6_count 13 p.1 = some (-11, t'.1) ∧ f_X6_refers 2 0 t'.1 = some (-11, t'.2.1) ∧ f_X6_refers 0 4 t'.2.1 = some (-11, t'.2.2) := by
  obtain ⟨s, hR, _, _⟩ := h
  obtain ⟨t1, e1, r1⟩ := Q_is (C_count hB hR 13 (by decide) (by decide) (by decide)) (cv_13 s)
  obtain ⟨t2, e2, r2⟩ := Q_is (C_refers r1 2 0) (rv_20 s)
  obtain ⟨t3, e3, r3⟩ := Q_is (C_refers r2 0 4) (rv_04 s)
  exact ⟨(t1, t2, t3), e1, e2, e3⟩
theorem law_loop {L : Nat} (hL : L ≤ 260) (xs : Nat → Int32) {X : Nat} (hX : X ≤ 90) : ∀ (n k B : Nat) (p : JT), k ≤ X → X - k < n → B + (X - k) < 1000 → InvJ p B → ∃ o, f_L_law_L128 L xs n 1 (nI X) (nI k) p = some o ∧ o.1 = 1 := by
  intro n
  induction n with
  | zero => intro k B p _ h; omega
  | succ n ih =>
    intro k B p hk hn hB hI
    by_cases h : k < X
    · obtain ⟨c, ec⟩ := e_cell hL xs (k := 1 + k) (by omega)
      obtain ⟨s, hR, hE, hb⟩ := hI
      obtain ⟨p1, e1, s1, r1, en1, b1⟩ := T_acts hR hE hb (c ^^^ (7919 * nI k))
      obtain ⟨t2, e2, r2⟩ := T_isSo (by omega) r1 en1 b1
      obtain ⟨o, eo, ho⟩ := ih (k + 1) (B + 1) (t2, p1.2) (by omega) (by omega) (by omega) ⟨s1, r2, en1, b1⟩
      refine ⟨o, ?_, ho⟩
      rw [f_L_law_L128, if_pos ((nI_ltI (by omega) (by omega)).mpr h), if_neg (show ¬ (1 : Int32) = 0 by decide), addL, ec, Option.bind_some, show f_L_acts (c ^^^ (7919 * nI k)) p = some (1, p1) from e1, Option.bind_some]
      dsimp only
      rw [if_neg (show ¬ (1 : Int32) = 0 by decide), show f_L_isSo p1 = some (1, (t2, p1.2)) from e2, Option.bind_some]
      dsimp only
      rw [if_neg (show ¬ (1 : Int32) = 0 by decide), Option.bind_some, addR]
      exact eo
    · have h4 : k = X := by omega
      subst h4
      obtain ⟨t', e1, e2, e3⟩ := law_end (by omega) hI
      refine ⟨(1, (t'.2.2, p.2)), ?_, rfl⟩
      rw [f_L_law_L128, if_neg (fun q => by have := (nI_ltI (by omega) (by omega)).mp q; omega), if_neg (show ¬ (1 : Int32) = 0 by decide), e1, Option.bind_some]
      dsimp only
      rw [if_pos rfl, e2, Option.bind_some]
      dsimp only
      rw [if_pos rfl, e3, Option.bind_some]
      dsimp only
      rw [if_pos rfl]
theorem pure_law (L : Nat) (xs : Nat → Int32) (hL : L ≤ 260) : ∃ o, f_L_law L xs (t0, m0) = some o ∧ o.1 = 1 := by
  obtain ⟨m1, e1, a2, a7, ao⟩ := L62_run t0 BIG 0 (sA m0 0 8 1) (by omega) (by unfold BIG; omega) (fun j hj => absurd hj (Nat.not_lt_zero j)) (fun j _ hj => absurd hj (Nat.not_lt_zero j))
  have e1 : f_L_law_L62 BIG 0 (t0, sA m0 0 8 1) = some (t0, m1) := e1
  have b0 : (sA m0 0 8 1).2 0 = upd (fun _ => 0) 8 1 := by
    show (sA m0 0 (nI 8) 1).2 0 = _
    rw [sA_nI _ _ _ (by omega)]; rfl
  have hE : En m1 s0M := en_0 a2 a7 ((ao 0 (by decide) (by decide)).trans b0) (ao 1 (by decide) (by decide)) (ao 5 (by decide) (by decide)) (ao 6 (by decide) (by decide))
  obtain ⟨t1, e2, r1⟩ := T_isSo (by omega) relC_0 hE bal_0
  obtain ⟨c, ec⟩ := e_cell hL xs (k := 0) (by omega)
  have ec : f_cell L xs 0 = some c := ec
  obtain ⟨Y, hY, e3⟩ := e_Llow c (n := 70) (by omega) (by omega) ((t1, m1) : JT)
  have e3 : f_L_low c 70 ((t1, m1) : JT) = some (nI Y, (t1, m1)) := e3
  obtain ⟨o, eo, ho⟩ := law_loop hL xs (X := 20 + Y) (by omega) BIG 0 0 (t1, m1) (by omega) (by unfold BIG; omega) (by omega) ⟨s0M, r1, hE, bal_0⟩
  refine ⟨o, ?_, ho⟩
  unfold f_L_law
  rw [if_pos i11_8, e1, Option.bind_some, e2, Option.bind_some, ec, Option.bind_some]
  dsimp only
  rw [e3, Option.bind_some]
  dsimp only
  rw [addL]
  exact eo
