/-! PURE: a step -/
theorem sw9 {p : Int32} {m : St} (hP : gP p (m.2 0)) : ∀ (n f : Nat), f ≤ 24 → 24 - f < n → ∃ r, f_X7_sweeps_L9 n (nI f) m = some (r, m) ∧ ((∃ k, f ≤ k ∧ k < 24 ∧ tb p k = true ∧ (∀ j, f ≤ j → j < k → tb p j = false) ∧ r = nI k) ∨ (r = nI 24 ∧ ∀ j, f ≤ j → j < 24 → tb p j = false)) := by
  intro n
  induction n with
  | zero => intro f _ h; omega
  | succ n ih =>
    intro f hf hn
    by_cases h : f < 24
    · cases z : tb p f
      · obtain ⟨r, e, hr⟩ := ih (f + 1) (by omega) (by omega)
        refine ⟨r, ?_, ?_⟩
        · rw [f_X7_sweeps_L9]
          have h0 : m.2 0 (7 * f) = 0 := by rw [hP f h, z]; rfl
          simp (disch := omega) only [ltL, h, if_true, e_of0 h, Option.bind_some, h0, addR]
          exact e
        · rcases hr with ⟨k, a, b, c, d, e⟩ | ⟨a, b⟩
          · refine Or.inl ⟨k, by omega, b, c, fun j h1 h2 => ?_, e⟩
            by_cases q : j = f
            · rw [q]; exact z
            · exact d j (by omega) h2
          · refine Or.inr ⟨a, fun j h1 h2 => ?_⟩
            by_cases q : j = f
            · rw [q]; exact z
            · exact b j (by omega) h2
      · refine ⟨nI f, ?_, Or.inl ⟨f, Nat.le_refl f, h, z, fun j _ _ => by omega, rfl⟩⟩
        rw [f_X7_sweeps_L9]
        have h0 : ¬ m.2 0 (7 * f) = 0 := by rw [hP f h, z]; decide
        simp (disch := omega) only [ltL, h, if_true, e_of0 h, Option.bind_some, h0, if_false]
    · have h3 : f = 24 := by omega
      subst h3
      refine ⟨nI 24, ?_, Or.inr ⟨rfl, fun j _ _ => by omega⟩⟩
      rw [f_X7_sweeps_L9]
      simp (disch := omega) only [ltL, if_false, Nat.lt_irrefl]
theorem black_off {w : St} {s : Nat → Int32} {B : Nat} {ex rw li : List Nat} (h : SimB w s B ex rw li) {k : Nat} (hk : k < 24) (hb : tb (w.1 17) k = true) : SimB (sR w 17 (w.1 17 &&& (bI (nI k) ^^^ (-1)))) (upd s (7 * k + 5) 0) B ex rw li := by
  obtain ⟨hA, hP, hF, hW, hCo, hE, hRw, hG, hLi, hO, hR, hH, hN, hI⟩ := h
  obtain ⟨a1, a2, a3, a4, a5, a6, a7, a8⟩ := hA
  have hg : tb (w.1 16) k = false := by
    cases z : tb (w.1 16) k
    · rfl
    · rw [a8 k z] at hb; cases hb
  have hCo' : gCo (w.1 13) (w.1 16) (w.1 17 &&& (bI (nI k) ^^^ (-1))) (upd s (7 * k + 5) 0) := by
    intro j hj hp
    by_cases e : j = k
    · subst e
      rw [upd_eq, hg]
      cases z : tb (w.1 17 &&& (bI (nI j) ^^^ (-1))) j
      · rfl
      · exact absurd rfl ((tb_sub hk j).mp z).2
    · have z : tb (w.1 17 &&& (bI (nI k) ^^^ (-1))) j = tb (w.1 17) j := bool_eq_iff ((tb_sub hk j).trans ⟨fun q => q.1, fun q => ⟨q, e⟩⟩)
      rw [upd_ne (by omega), z]
      exact hCo j hj hp
  refine ⟨⟨a1, a2, a3, S24_and a4, a5, a6, fun j q => a7 j ((tb_sub hk j).mp q).1, fun j q => ?_⟩, gP_s (fun j hj => ?_) hP, gF_s (fun j f hj hf => ?_) hF, gW_s (fun j hj => ?_) hW, hCo', gE_s (fun j hj => ?_) hE, gL_s (fun j hj => ?_) hRw, hG, gL_s (fun j hj => ?_) hLi, hO, gR_s (fun j hj => ?_) hR, gR_s (fun j hj => ?_) hH, gNu_s (fun j h1 h2 => ?_) hN, hI⟩
  · cases z : tb (w.1 17 &&& (bI (nI k) ^^^ (-1))) j
    · exact z
    · have := a8 j q
      rw [((tb_sub hk j).mp z).1] at this
      cases this
  all_goals simp (disch := omega) only [upd_ne]
def mu (w : Nat → Int32) : Nat := if w 15 = 0 then 0 else if w 15 = 3 then 25 - (w 18).toNatClampNeg else (24 - cnt (tb (w 17)) 24) + cnt (tb (w 14)) 24 + (if w 15 = 1 then 200 else 100)
theorem mu_le (w : Nat → Int32) : mu w ≤ 300 := by
  unfold mu
  have := cnt_le (tb (w 14)) 24
  split
  · omega
  · split
    · omega
    · split <;> omega
theorem nI_eq_of {k : Nat} : nI k + 1 = nI (k + 1) := nI_add k 1
theorem sweep_sim {w m : St} {B : Nat} {rw li : List Nat} (h : SimL w (m.2 0) B rw li) (h3 : w.1 15 = 3) :
    ∃ w' s', f_X4_sweep w = some (0, w') ∧ f_X7_sweeps m = some (0, sG m 0 s') ∧ SimL w' s' B rw li ∧ mu w'.1 < mu w.1 ∧ (w'.1 22 = w.1 22 ∨ w'.1 22 = w.1 22 + 1) ∧ (∀ r, r = 10 ∨ r = 11 ∨ r = 12 ∨ r = 19 ∨ r < 10 → w'.1 r = w.1 r) ∧ w'.2 0 = w.2 0 := by
  obtain ⟨hS, hC⟩ := h
  obtain ⟨f, hf, hf18⟩ := hS.2.2.2.2.2.2.2.2.2.2.2.2.2.2.2.1
  have hK := hC.2.2 h3 f hf hf18
  obtain ⟨k0, k1, k2, k3, k4, k5⟩ := hK
  have hA := hS.1
  have h227 : m.2 0 227 = nI f := hS.2.2.2.2.2.2.2.2.2.2.2.2.1.2.1.trans hf18
  obtain ⟨r, e1, hL⟩ := e_low (w.1 13) hf w
  obtain ⟨r2, e2, hL2⟩ := sw9 hS.2.1 BIG f hf (by unfold BIG; omega)
  have hmu : mu w.1 = 25 - f := by
    unfold mu
    rw [if_neg (by rw [h3]; decide), if_pos h3, hf18, clN (by omega)]
  rcases hL with ⟨k, q1, q2, q3, q4, rfl⟩ | ⟨rfl, q1⟩
  · have hr2 : r2 = nI k := by
      rcases hL2 with ⟨k', z1, z2, z3, z4, rfl⟩ | ⟨_, z⟩
      · rcases Nat.lt_trichotomy k' k with q | q | q
        · rw [q4 k' z1 q] at z3; cases z3
        · rw [q]
        · rw [z4 k q1 q] at q3; cases q3
      · rw [z k q1 q2] at q3; cases q3
    subst hr2
    have e2' : f_X7_sweeps_L9 BIG (m.2 0 (227 : Int32).toNatClampNeg) m = some (nI k, m) := by rw [c227, h227]; exact e2
    have hne : ¬ nI k = -1 := nI_ne_m1 (by omega)
    have hn24 : ¬ nI k = 24 := fun q => by have := (nI_eq (a := k) (b := 24) (by omega) (by omega)).mp q; omega
    have hlow : ∀ y, y < k → tb (w.1 13) y = true → y < f := by
      intro y hy hp
      rcases Nat.lt_or_ge y f with q | q
      · exact q
      · rw [q4 y q hy] at hp; cases hp
    have nwb : ∀ y, nw (w.1 16) (w.1 17) y → tb (w.1 17) y = true := by
      intro y q
      rcases q with q | q
      · rw [k0, tb_0] at q; cases q
      · exact q
    have hk1 : tb (bI (nI k)) k = true := by rw [tb_bI q2]; simp
    have mu' : ∀ w' : Nat → Int32, w' 15 = 3 → w' 18 = nI (k + 1) → mu w' < mu w.1 := by
      intro w' a b
      rw [hmu]
      unfold mu
      rw [if_neg (by rw [a]; decide), if_pos a, b, clN (by omega)]
      omega
    by_cases hw : nw (w.1 16) (w.1 17) k
    · have hb := nwb k hw
      have hz : whI w.1 &&& bI (nI k) = 0 := (and_bI q2).mpr (by
        cases z : tb (whI w.1) k
        · rfl
        · exact absurd hw ((tb_wh w.1 (by omega)).mp z).2)
      have hm5 : ¬ m.2 0 (7 * k + 5) = 0 := fun q => (col_0 hS.2.2.2.2.1 q2 q3).mp q hw
      have hS2 := set_18 (black_off hS q2 hb) (nI (k + 1)) ⟨k + 1, by omega, rfl⟩
      refine ⟨sR (sR w 17 (w.1 17 &&& (bI (nI k) ^^^ (-1)))) 18 (nI (k + 1)), upd (upd (m.2 0) (7 * k + 5) 0) 227 (nI (k + 1)), ?_, ?_, ⟨hS2, ?_⟩, mu' _ h3 rfl, Or.inl rfl, fun r hr => ?_, rfl⟩
      · unfold f_X4_sweep
        rw [hf18, e1]
        simp only [Option.bind_some, hne, if_false, e_bit, e_white, hz, if_true]
        rw [nI_eq_of]
      · unfold f_X7_sweeps
        rw [if_pos ib227, e2']
        simp only [Option.bind_some, hn24, if_false, e_of5 q2, hm5, show f_X7_sets (nI k) 5 0 m = some (0, sG m 0 (upd (m.2 0) (7 * k + 5) 0)) from e_sets (j := 5) (by omega) 0]
        rw [if_pos ib227, nI_eq_of]
        simp only [sA, c227, sG_2, sG_sG]
      · refine ⟨fun q => ?_, fun q => ?_, fun _ f' hf' hfr => ?_⟩
        · have : (3 : Int32) = 0 := h3.symm.trans q
          exact absurd this (by decide)
        · have : (3 : Int32) = 1 ∨ (3 : Int32) = 2 := by rw [← h3]; exact q
          exact absurd this (by decide)
        · have e : f' = k + 1 := (nI_inj (by omega) (by omega) (show nI (k + 1) = nI f' from hfr)).symm
          subst e
          have kp : ∀ y, y < 24 → kept (w.1 17) f y → kept (w.1 17 &&& (bI (nI k) ^^^ (-1))) (k + 1) y := by
            intro y hy q
            by_cases e : y < k + 1
            · exact Or.inl e
            · rcases q with q | q
              · omega
              · exact Or.inr ((tb_sub q2 y).mpr ⟨q, by omega⟩)
          refine ⟨k0, fun y q => ?_, fun y hy => kp y (tb_lt hA.1 (hS.2.2.2.2.2.2.2.2.2.1.2 y hy)) (k2 y hy), fun y hy q => kp y hy (k3 y hy q), fun y hy q => kp y hy (k4 y hy q), fun y j hy hj hp hq he => kp j hj (k5 y j hy hj hp ?_ he)⟩
          · have q' := (tb_sub q2 y).mp q
            have := k1 y q'.1
            rcases Nat.lt_or_ge y (k + 1) with z | z
            · have : y < f := hlow y (by omega) (hA.2.2.2.2.2.2.1 y q'.1)
              omega
            · exact z
          · rcases hq with q | q
            · by_cases e : y = k
              · rw [e]; exact Or.inr hb
              · exact Or.inl (hlow y (by omega) hp)
            · exact Or.inr ((tb_sub q2 y).mp q).1
      · show (if r = 18 then _ else if r = 17 then _ else w.1 r) = w.1 r
        rw [if_neg (by omega), if_neg (by omega)]
    · have hz : ¬ whI w.1 &&& bI (nI k) = 0 := fun q => by
        have := (and_bI q2).mp q
        rw [(tb_wh w.1 (by omega)).mpr ⟨q3, hw⟩] at this
        cases this
      have hm5 : m.2 0 (7 * k + 5) = 0 := (col_0 hS.2.2.2.2.1 q2 q3).mpr hw
      have nkept : ¬ kept (w.1 17) f k := fun q => q.elim (fun q => by omega) (fun q => hw (Or.inr q))
      obtain ⟨F', H', e3, hF', hH'⟩ := letGo_F q2 w
      obtain ⟨s', e4, hs⟩ := e_letsGo q2 m
      have hS1 := go_sim hS q2 hw (fun q => nkept (k3 k q2 q)) (fun q => nkept (k2 k q)) hs hF' hH'
      have hS2 := set_18 hS1 (nI (k + 1)) ⟨k + 1, by omega, rfl⟩
      refine ⟨_, _, ?_, ?_, ⟨hS2, ?_⟩, mu' _ h3 rfl, Or.inr rfl, fun r hr => ?_, rfl⟩
      · unfold f_X4_sweep
        rw [hf18, e1]
        simp only [Option.bind_some, hne, if_false, e_bit, e_white, hz, e3]
        rw [nI_eq_of]
        rfl
      · unfold f_X7_sweeps
        rw [if_pos ib227, e2']
        simp only [Option.bind_some, hn24, if_false, e_of5 q2, hm5, if_true, e4]
        rw [if_pos ib227, nI_eq_of]
        simp only [sA, c227, sG_2, sG_sG]
      · refine ⟨fun q => ?_, fun q => ?_, fun _ f' hf' hfr => ?_⟩
        · have : (3 : Int32) = 0 := h3.symm.trans q
          exact absurd this (by decide)
        · have : (3 : Int32) = 1 ∨ (3 : Int32) = 2 := by rw [← h3]; exact q
          exact absurd this (by decide)
        · have e : f' = k + 1 := (nI_inj (by omega) (by omega) (show nI (k + 1) = nI f' from hfr)).symm
          subst e
          have kp : ∀ y, kept (w.1 17) f y → kept (w.1 17) (k + 1) y := by
            intro y q
            rcases q with q | q
            · exact Or.inl (by omega)
            · exact Or.inr q
          have hlo2 : ∀ y, tb (w.1 17) y = true → k + 1 ≤ y := by
            intro y q
            have z := k1 y q
            rcases Nat.lt_trichotomy y k with e | e | e
            · have := hlow y e (hA.2.2.2.2.2.2.1 y q); omega
            · subst e; exact absurd (Or.inr q) hw
            · exact e
          refine ⟨k0, hlo2, fun y hy => kp y (k2 y hy), fun y hy q => kp y (k3 y hy q), fun y hy q => kp y (k4 y hy (rootS_fz hH' hy q).2), fun y j hy hj hp hq he => kp j (k5 y j hy hj ((tb_sub q2 y).mp hp).1 ?_ (edge_fz hF' hy hj he).2.2)⟩
          rcases hq with q | q
          · have z := (edge_fz hF' hy hj he).1
            exact Or.inl (hlow y (by omega) ((tb_sub q2 y).mp hp).1)
          · exact Or.inr q
      · show (if r = 18 then _ else if r = 22 then _ else if r = 21 then _ else if r = 14 then _ else if r = 13 then _ else w.1 r) = w.1 r
        rw [if_neg (by omega), if_neg (by omega), if_neg (by omega), if_neg (by omega), if_neg (by omega)]
  · have hr2 : r2 = nI 24 := by
      rcases hL2 with ⟨k', z1, z2, z3, z4, rfl⟩ | ⟨a, _⟩
      · rw [q1 k' z1 z2] at z3; cases z3
      · exact a
    subst hr2
    have e2' : f_X7_sweeps_L9 BIG (m.2 0 (227 : Int32).toNatClampNeg) m = some (nI 24, m) := by rw [c227, h227]; exact e2
    have hb0 : w.1 17 = 0 := by
      refine S24_ext hA.2.2.2.1 S24_0 (fun y hy => ?_)
      rw [tb_0]
      cases z : tb (w.1 17) y
      · rfl
      · have := q1 y (k1 y z) hy
        rw [hA.2.2.2.2.2.2.1 y z] at this
        cases this
    refine ⟨sR w 15 0, upd (m.2 0) 226 0, ?_, ?_, ⟨set_15 hS 0 (Or.inl rfl), fun _ => ⟨k0, hb0⟩, fun q => ?_, fun q => ?_⟩, ?_, Or.inl rfl, fun r hr => ?_, rfl⟩
    · unfold f_X4_sweep
      rw [hf18, e1]
      simp only [Option.bind_some, if_true]
    · unfold f_X7_sweeps
      rw [if_pos ib227, e2']
      simp only [Option.bind_some]
      rw [if_pos (show nI 24 = 24 from rfl), if_pos ib226]
      simp only [sA, c226]
    · have : (0 : Int32) = 1 ∨ (0 : Int32) = 2 := q
      exact absurd this (by decide)
    · have : (0 : Int32) = 3 := q
      exact absurd this (by decide)
    · rw [hmu]
      unfold mu
      rw [if_pos (show (sR w 15 0).1 15 = 0 from rfl)]
      omega
    · show (if r = 15 then _ else w.1 r) = w.1 r
      rw [if_neg (by omega)]
