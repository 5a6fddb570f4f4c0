/-! PURE: the first states, and the law -/
theorem gL_0 {s : Nat → Int32} {base : Nat} (h : s base = 0) : gL 0 (fun _ => (0 : Int32)) [] s base := ⟨⟨rfl, by decide, fun j hj => absurd hj (Nat.not_lt_zero j)⟩, h, fun j hj => absurd hj (Nat.not_lt_zero j)⟩
theorem s0_P : ∀ k, k < 24 → s0M (7 * k) = 0 := by decide +kernel
theorem s0_R : ∀ j, j < 8 → s0M (218 + j) = -1 := by decide +kernel
theorem sim_0 : Sim stI s0M 0 := by
  have nt : ∀ k, tb (0 : Int32) k = true → False := fun k q => by rw [tb_0] at q; cases q
  refine ⟨[], [], ⟨⟨S24_0, S24_0, S24_0, S24_0, fun k q => (nt k q).elim, fun k q => (nt k q).elim, fun k q => (nt k q).elim, fun k q => (nt k q).elim⟩, fun k hk => ?_, fun k f hk hf => ⟨Or.inl rfl, fun q => (nt k q).elim, fun _ => rfl⟩, fun k hk q => (nt k q).elim, fun k hk q => (nt k q).elim, fun k hk q => (nt k q).elim, gL_0 (by decide +kernel), ⟨List.nodup_nil, fun k => ⟨fun q => (by cases q), fun q => (nt k q).elim⟩⟩, gL_0 (by decide +kernel), ⟨List.nodup_nil, fun k q => by cases q⟩, fun j hj => ⟨Or.inl rfl, s0_R j (by omega)⟩, fun j hj => ⟨Or.inl rfl, ?_⟩, ⟨?_, ?_, ?_, ?_, ?_, ?_, ?_, ?_, ?_⟩, Or.inl rfl, Or.inl rfl, ⟨0, by omega, rfl⟩, 0, by omega, rfl⟩, fun _ => ⟨rfl, rfl⟩, fun q => ?_, fun q => ?_⟩
  · show s0M (7 * k) = if tb 0 k then 1 else 0
    rw [tb_0, s0_P k hk]
    rfl
  · have := s0_R (4 + j) (by omega)
    rw [show 218 + (4 + j) = 222 + j by omega] at this
    exact this
  · show s0M 226 = 0; decide +kernel
  · show s0M 227 = 0; decide +kernel
  · show s0M 228 = 0; decide +kernel
  · show s0M 229 = 0; decide +kernel
  · show s0M 230 = 0; decide +kernel
  · show s0M 231 = 0; decide +kernel
  · show s0M 232 = 0; decide +kernel
  · show s0M 233 = 0; decide +kernel
  · show s0M 234 = 1; decide +kernel
  · have : (0 : Int32) = 1 ∨ (0 : Int32) = 2 := q
    exact absurd this (by decide)
  · have : (0 : Int32) = 3 := q
    exact absurd this (by decide)
theorem rel_0 : RelT t0 m0 0 (fun _ => 0) 0 :=
  ⟨⟨by omega, fun j hj => absurd hj (Nat.not_lt_zero j)⟩, rfl, fun j hj => absurd hj (Nat.not_lt_zero j), rfl, fun j hj => absurd hj (Nat.not_lt_zero j), rfl, sim_0, rfl, Or.inl rfl, 0, 0, by omega, by omega, rfl, rfl, rfl, fun i hi => absurd hi (Nat.not_lt_zero i)⟩
theorem pure_law (L : Nat) (xs : Nat → Int32) (hL : L ≤ 2048) : ∃ o, f_L_law_L18 L xs BIG 0 (t0, m0) = some o ∧ o.1 = 1 := by
  have hz : (0 : Int32) = nI 0 := rfl
  rw [hz]
  exact law_loop L xs hL BIG 0 0 t0 m0 (fun _ => 0) 0 (Nat.zero_le L) (by unfold BIG; omega) (by omega) rel_0
