/-! PURE: field -/
theorem or_and_0 (a b y : Int32) : (a ||| b) &&& y = 0 ↔ a &&& y = 0 ∧ b &&& y = 0 := by
  rw [and_zero, and_zero, and_zero]
  constructor
  · intro h
    refine ⟨fun k hk => ?_, fun k hk => ?_⟩
    · have := h k hk
      rw [tb_or] at this
      cases z : tb a k <;> cases z2 : tb y k <;> simp_all
    · have := h k hk
      rw [tb_or] at this
      cases z : tb b k <;> cases z2 : tb y k <;> simp_all
  · intro h k hk
    have h1 := h.1 k hk
    have h2 := h.2 k hk
    rw [tb_or]
    cases z : tb a k <;> cases z1 : tb b k <;> cases z2 : tb y k <;> simp_all
theorem field_set {w : St} {s : Nat → Int32} {B : Nat} {ex rw li : List Nat} (h : SimB w s B ex rw li) {k f : Nat} (hk : k < 24) (hf : f < 3) (hp : tb (w.1 13) k = true) {to : Int32} (ht : okr (w.1 13) to) : SimB (sG w 1 (upd (w.2 1) (3 * k + f) to)) (upd s (7 * k + (1 + f)) to) B ex rw li := by
  obtain ⟨hA, hP, hF, hW, hCo, hE, hRw, hG, hLi, hO, hR, hH, hN, hI⟩ := h
  have hF' : gF (w.1 13) (upd (w.2 1) (3 * k + f) to) (upd s (7 * k + (1 + f)) to) := by
    intro y g hy hg
    by_cases e : y = k ∧ g = f
    · obtain ⟨rfl, rfl⟩ := e
      rw [upd_eq, upd_eq]
      exact ⟨ht, fun _ => rfl, fun q => by rw [hp] at q; cases q⟩
    · rw [upd_ne (by omega), upd_ne (by omega)]
      exact hF y g hy hg
  refine ⟨hA, gP_s (fun j hj => ?_) hP, hF', gW_s (fun j hj => ?_) hW, gCo_s (fun j hj => ?_) hCo, gE_s (fun j hj => ?_) hE, gL_s (fun j hj => ?_) hRw, hG, gL_s (fun j hj => ?_) hLi, hO, gR_s (fun j hj => ?_) hR, gR_s (fun j hj => ?_) hH, gNu_s (fun j h1 h2 => ?_) hN, hI⟩ <;> simp (disch := omega) only [upd_ne]
theorem field_core {w m : St} {B : Nat} {rw li : List Nat} {Q : Int32} (hS : SimL w (m.2 0) B rw li) (c1 : IsCl (w.2 1) (fun j => rootS (w.2 2) j ∨ j ∈ li) noX Q) (c2 : ∀ j, j < 24 → tb Q j = true → tb (w.1 13) j = true) {k f : Nat} (hk : k < 24) (hf : f < 3) (hp : tb (w.1 13) k = true) {to : Int32} (ht : okr (w.1 13) to) (hQ : ∀ j, j < 24 → to = nI j → tb Q j = true) :
    ∃ w' s', f_X5_takeCare (if tb (w.1 17) k then 1 else 0) (w.2 1 (3 * k + f)) to (sG w 1 (upd (w.2 1) (3 * k + f) to)) = some (0, w') ∧ f_X7_cares (w.2 1 (3 * k + f)) to (if tb (w.1 17) k then 1 else 0) (sG m 0 (upd (m.2 0) (7 * k + (1 + f)) to)) = some (0, sG m 0 s') ∧ Sim w' s' B ∧ sf w w' := by
  have hb : okr (w.1 13) (w.2 1 (3 * k + f)) := (hS.1.2.2.1 k f hk hf).1
  have hS1 := field_set hS.1 hk hf hp ht
  obtain ⟨w', s', rw', e1, e2, a1, a2, a3⟩ := care_sim (w := sG w 1 (upd (w.2 1) (3 * k + f) to)) (m := sG m 0 (upd (m.2 0) (7 * k + (1 + f)) to)) (by rw [sG_2]; exact hS1) (bl := if tb (w.1 17) k then 1 else 0) hb ht
  rw [sG_sG] at e2
  have a2' : careRel (w.1 15) (w.1 10) (if tb (w.1 17) k then 1 else 0) (w.2 1 (3 * k + f)) to (w.1 16) (w.1 17) (w'.1 16) := a2
  have fr : ∀ r, r ≠ 16 → r ≠ 24 → w'.1 r = w.1 r := fun r x y => (a3.1 r x y).trans rfl
  refine ⟨w', s', e1, e2, ⟨rw', li, a1, ?_⟩, fun r hr => fr r (by omega) (by omega), a3.2 0 (by decide)⟩
  have f1 : w'.2 1 = upd (w.2 1) (3 * k + f) to := (a3.2 1 (by decide)).trans (sG_2 _ _ _)
  have f2 : w'.2 2 = w.2 2 := (a3.2 2 (by decide)).trans rfl
  have f3 : w'.2 3 = w.2 3 := (a3.2 3 (by decide)).trans rfl
  rw [fr 15 (by decide) (by decide), fr 17 (by decide) (by decide), fr 10 (by decide) (by decide), fr 13 (by decide) (by decide), fr 18 (by decide) (by decide), f1, f2, f3]
  have hC := hS.2
  have nog : ¬ (w.1 15 = 1 ∨ w.1 15 = 2) → w'.1 16 = w.1 16 := by
    intro q
    rcases a2' with ⟨_, e⟩ | ⟨z, _⟩ | ⟨z, _⟩
    · exact e
    · exact absurd z q
    · exact absurd z q
  refine ⟨fun q => ?_, fun q => ?_, fun q fr' hf' hfr => ?_⟩
  · rw [nog (by rw [q]; decide)]; exact hC.1 q
  · have hg := careRel_sub a2'
    have h2 : w.1 10 = 2 → ¬ w.2 1 (3 * k + f) = to → ∀ j, j < 24 → w.2 1 (3 * k + f) = nI j → nw (w'.1 16) (w.1 17) j := by
      intro hc hne j hj e
      rcases a2' with ⟨z, _⟩ | ⟨_, z, _⟩ | ⟨_, _, ⟨z, _⟩ | ⟨_, z⟩⟩
      · exact absurd q z
      · rw [hc] at z; exact absurd z (by decide)
      · exact absurd z hne
      · exact shade_nw z hj e
    refine gM_field hf (hC.2.1 q) hg h2 (fun hbk j hj e => ?_)
    rcases a2' with ⟨z, _⟩ | ⟨_, z, ⟨z2, _⟩ | ⟨_, z2⟩⟩ | ⟨_, z, _⟩
    · exact absurd q z
    · rw [hbk] at z2; exact absurd z2 (by decide)
    · exact Or.inl (shade_nw z2 hj e)
    · exact safe_field hg h2 hj (to_safe hS c1 hQ q z j hj e)
  · rw [nog (by rw [q]; decide)]
    exact gK3_field (hC.2.2 q fr' hf' hfr) hf (to_kept hS c2 c1 hQ q fr' hf' hfr)
theorem e_isBlack {k : Nat} (hk : k < 24) (w : St) : f_X4_isBlack (nI k) w = some (if tb (w.1 17) k then 1 else 0, w) := by
  unfold f_X4_isBlack
  rw [e_bit]
  simp only [Option.bind_some]
  cases z : tb (w.1 17) k
  · rw [if_pos ((and_bI hk).mpr z)]; rfl
  · rw [if_neg (fun q => by rw [(and_bI hk).mp q] at z; cases z)]; rfl
theorem col_2 {p g b : Int32} {s : Nat → Int32} (h : gCo p g b s) {k : Nat} (hk : k < 24) (hp : tb p k = true) : s (7 * k + 5) = 2 ↔ tb b k = true := by
  rw [h k hk hp]
  cases tb b k <;> cases tb g k <;> simp <;> decide
theorem field_model {p g b : Int32} {m : St} {k f : Nat} (hk : k < 24) (hf : f < 3) (hCo : gCo p g b (m.2 0)) (hp : tb p k = true) {to : Int32} {s' v : Nat → Int32} {r : Int32} (hr : m.2 0 (7 * k + (1 + f)) = r) (h : f_X7_cares r to (if tb b k then 1 else 0) (sG m 0 (upd (m.2 0) (7 * k + (1 + f)) to)) = some (0, sG m 0 s')) :
    ((f_X7_of (nI k) (1 + nI f) m).bind fun o14 => (f_X7_sets (nI k) (1 + nI f) to o14.2).bind fun o16 => (f_X7_of (nI k) 5 o16.2).bind fun o18 => (if o18.1 = 2 then (f_X7_cares o14.1 to 1 o18.2).bind fun o21 => some (o14.1, o21.2) else (f_X7_cares o14.1 to 0 o18.2).bind fun o23 => some (o14.1, o23.2))) = some (r, sG m 0 s') := by
  have h1 : (1 : Int32) + nI f = nI (1 + f) := nI_add 1 f
  rw [h1, e_of (by omega)]
  simp only [Option.bind_some]
  rw [e_sets (by omega)]
  simp only [Option.bind_some]
  rw [e_of5 hk]
  simp only [Option.bind_some]
  rw [hr]
  have h5 : (sG m 0 (upd (m.2 0) (7 * k + (1 + f)) to)).2 0 (7 * k + 5) = m.2 0 (7 * k + 5) := by rw [sG_2, upd_ne (by omega)]
  rw [h5]
  cases z : tb b k
  · rw [z] at h
    rw [if_neg (fun q => by rw [(col_2 hCo hk hp).mp q] at z; cases z), show f_X7_cares r to 0 (sG m 0 (upd (m.2 0) (7 * k + (1 + f)) to)) = some (0, sG m 0 s') from h]
    rfl
  · rw [z] at h
    rw [if_pos ((col_2 hCo hk hp).mpr z), show f_X7_cares r to 1 (sG m 0 (upd (m.2 0) (7 * k + (1 + f)) to)) = some (0, sG m 0 s') from h]
    rfl
theorem field_step {w m m' : St} {B : Nat} (h : Sim w (m.2 0) B) (hc : f_X7_changes m = some (0, m')) (h0 : m'.2 0 = m.2 0) (x y z : Int32) : ChS w m m' B (f_X5_writeField x y z w) (f_X7_field x y z m) := by
  obtain ⟨rw, li, hS⟩ := h
  have hP := hS.1.2.1
  obtain ⟨Q, e1, e2, c1, c2⟩ := reach_both hS.1
  have in2 : inI y 0 2 = isI y 3 := in_isI y 2 (by omega)
  rcases hasI_iff (p := w.1 13) (x := x) with ⟨hx, k, hk, rfl, hp⟩ | ⟨hx, _⟩
  · rcases isI_or y 3 (by omega) with ⟨f, hf, rfl, hfn⟩ | hfn
    · have hfn' : isI (nI f) 3 = 1 := hfn
      have hS' : SimL w (m'.2 0) B rw li := by rw [h0]; exact hS
      have hbf := hS'.1.2.2.1 k f hk hf
      have ok : (z = -1 ∨ ∃ j, j < 24 ∧ z = nI j ∧ tb (w.1 13) j = true) → tb Q k = true → (∀ j, j < 24 → z = nI j → tb Q j = true) → ∃ w' s', (f_X1_fieldOf (nI k) (nI f) w).bind (fun o17 => (f_X1_setField (nI k) (nI f) z o17.2).bind fun o19 => (f_X4_isBlack (nI k) o19.2).bind fun o21 => (f_X5_takeCare o21.1 o17.1 z o21.2).bind fun o23 => some (o17.1, o23.2)) = some (w.2 1 (3 * k + f), w') ∧ ((f_X7_of (nI k) (1 + nI f) m').bind fun o14 => (f_X7_sets (nI k) (1 + nI f) z o14.2).bind fun o16 => (f_X7_of (nI k) 5 o16.2).bind fun o18 => (if o18.1 = 2 then (f_X7_cares o14.1 z 1 o18.2).bind fun o21 => some (o14.1, o21.2) else (f_X7_cares o14.1 z 0 o18.2).bind fun o23 => some (o14.1, o23.2))) = some (w.2 1 (3 * k + f), sG m' 0 s') ∧ Sim w' s' B ∧ sf w w' := by
        intro hz _ hq
        obtain ⟨w', s', a1, a2, a3, a4⟩ := field_core hS' c1 c2 hk hf hp (to := z) hz hq
        refine ⟨w', s', ?_, field_model (v := w.2 1) hk hf hS'.1.2.2.2.2.1 hp (hbf.2.1 hp) a2, a3, a4⟩
        rw [e_fieldOf hk hf]
        simp only [Option.bind_some]
        rw [e_setField hk hf]
        simp only [Option.bind_some]
        rw [e_isBlack hk]
        simp only [Option.bind_some]
        rw [show f_X5_takeCare (if tb ((sG w 1 (upd (w.2 1) (3 * k + f) z)).1 17) k then 1 else 0) (w.2 1 (3 * k + f)) z (sG w 1 (upd (w.2 1) (3 * k + f) z)) = some (0, w') from a1]
        rfl
      by_cases hq : tb Q k = true
      · rcases obj_or (w.1 13) z with rfl | ⟨z1, z2, j, hj, rfl, hpj⟩ | ⟨z1, z2⟩
        · obtain ⟨w', s', a1, a2, a3, a4⟩ := ok (Or.inl rfl) hq (fun j hj e => absurd e.symm (nI_ne_m1 (by omega)))
          refine Or.inr ⟨_, w', s', ok_okr hbf.1, ?_, ?_, Sim_mono (Nat.le_succ B) a3, a4⟩
          · unfold f_X5_writeField
            simp only [e_has, hx, Option.bind_some, oz, if_false, e_isIn, hfn', e_hasOrNone, if_true, e_bit, bI_m1, or_0, e1, (bI_sub hk).mpr hq]
            exact a1
          · unfold f_X7_field
            simp only [e_isObject hP, hx, Option.bind_some, oz, if_false, e_in, in2, hfn', if_true, e_isReached e2 hk, hq, hc]
            rw [if_pos (show (-1 : Int32) < 0 by decide)]
            exact a2
        · have hn0 : ¬ nI j < 0 := nI_pos (by omega)
          by_cases hq2 : tb Q j = true
          · obtain ⟨w', s', a1, a2, a3, a4⟩ := ok (Or.inr ⟨j, hj, rfl, hpj⟩) hq (fun j' hj' e => by rw [← nI_inj (by omega) (by omega) e]; exact hq2)
            refine Or.inr ⟨_, w', s', ok_okr hbf.1, ?_, ?_, Sim_mono (Nat.le_succ B) a3, a4⟩
            · unfold f_X5_writeField
              simp only [e_has, hx, Option.bind_some, oz, if_false, e_isIn, hfn', e_hasOrNone, z1, z2, e_bit, e1]
              rw [if_pos ((or_and_0 _ _ _).mpr ⟨(bI_sub hk).mpr hq, (bI_sub hj).mpr hq2⟩)]
              exact a1
            · unfold f_X7_field
              simp only [e_isObject hP, hx, Option.bind_some, oz, if_false, e_in, in2, hfn', z1, z2, if_true, e_isReached e2 hk, hq, hn0, e_isReached e2 hj, hq2, hc]
              exact a2
          · refine Or.inl ⟨-12, no_12, ?_, ?_⟩
            · unfold f_X5_writeField
              simp only [e_has, hx, Option.bind_some, oz, if_false, e_isIn, hfn', e_hasOrNone, z1, z2, e_bit, e1]
              rw [if_neg (fun q => hq2 ((bI_sub hj).mp ((or_and_0 _ _ _).mp q).2))]
            · unfold f_X7_field
              simp only [e_isObject hP, hx, Option.bind_some, oz, if_false, e_in, in2, hfn', z1, z2, if_true, e_isReached e2 hk, hq, hn0, e_isReached e2 hj, hq2, Bool.false_eq_true]
        · refine Or.inl ⟨-11, no_11, ?_, ?_⟩
          · unfold f_X5_writeField
            simp only [e_has, hx, Option.bind_some, oz, if_false, e_isIn, hfn', e_hasOrNone, z1, z2, if_true]
          · unfold f_X7_field
            simp only [e_isObject hP, hx, Option.bind_some, oz, if_false, e_in, in2, hfn', z1, z2, if_true]
      · rcases obj_or (w.1 13) z with rfl | ⟨z1, z2, j, hj, rfl, hpj⟩ | ⟨z1, z2⟩
        · refine Or.inl ⟨-12, no_12, ?_, ?_⟩
          · unfold f_X5_writeField
            simp only [e_has, hx, Option.bind_some, oz, if_false, e_isIn, hfn', e_hasOrNone, if_true, e_bit, bI_m1, or_0, e1]
            rw [if_neg (fun q => hq ((bI_sub hk).mp q))]
          · unfold f_X7_field
            simp only [e_isObject hP, hx, Option.bind_some, oz, if_false, e_in, in2, hfn', if_true, e_isReached e2 hk, hq, Bool.false_eq_true]
        · refine Or.inl ⟨-12, no_12, ?_, ?_⟩
          · unfold f_X5_writeField
            simp only [e_has, hx, Option.bind_some, oz, if_false, e_isIn, hfn', e_hasOrNone, z1, z2, e_bit, e1]
            rw [if_neg (fun q => hq ((bI_sub hk).mp ((or_and_0 _ _ _).mp q).1))]
          · unfold f_X7_field
            simp only [e_isObject hP, hx, Option.bind_some, oz, if_false, e_in, in2, hfn', z1, z2, if_true, e_isReached e2 hk, hq, Bool.false_eq_true]
        · refine Or.inl ⟨-11, no_11, ?_, ?_⟩
          · unfold f_X5_writeField
            simp only [e_has, hx, Option.bind_some, oz, if_false, e_isIn, hfn', e_hasOrNone, z1, z2, if_true]
          · unfold f_X7_field
            simp only [e_isObject hP, hx, Option.bind_some, oz, if_false, e_in, in2, hfn', z1, z2, if_true]
    · have hfn' : isI y 3 = 0 := hfn
      refine Or.inl ⟨-11, no_11, ?_, ?_⟩
      · unfold f_X5_writeField
        simp only [e_has, hx, Option.bind_some, oz, if_false, e_isIn, hfn', if_true]
      · unfold f_X7_field
        simp only [e_isObject hP, hx, Option.bind_some, oz, if_false, e_in, in2, hfn', if_true]
  · refine Or.inl ⟨-11, no_11, ?_, ?_⟩
    · unfold f_X5_writeField
      simp only [e_has, hx, Option.bind_some, if_true]
    · unfold f_X7_field
      simp only [e_isObject hP, hx, Option.bind_some, if_true]
