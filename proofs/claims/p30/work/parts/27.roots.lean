/-! PURE: what care asks for; roots written -/
def ndI (p : Int32) : Int32 := if p = 1 then 1 else if p = 2 then 1 else 0
theorem e_needs (w : St) : f_X4_needsCare w = some (ndI (w.1 15), w) := by
  unfold f_X4_needsCare ndI
  split
  · rfl
  · split <;> rfl
theorem ib226 : ib 226 235 := by decide
theorem ib227 : ib 227 235 := by decide
theorem ib234 : ib 234 235 := by decide
theorem c226 : (226 : Int32).toNatClampNeg = 226 := by decide
theorem c227 : (227 : Int32).toNatClampNeg = 227 := by decide
theorem c234 : (234 : Int32).toNatClampNeg = 234 := by decide
theorem e_isMarking (m : St) : f_X7_isMarking m = some (ndI (m.2 0 226), m) := by
  unfold f_X7_isMarking ndI
  rw [if_pos ib226, if_pos ib226, c226]
  split
  · rfl
  · split <;> rfl
theorem ndI_0 {p : Int32} : ndI p = 0 ↔ ¬ (p = 1 ∨ p = 2) := by
  unfold ndI
  constructor
  · intro h q
    rcases q with q | q
    · rw [if_pos q] at h; exact absurd h (by decide)
    · subst q; exact absurd h (by decide)
  · intro h
    rw [if_neg (fun q => h (Or.inl q)), if_neg (fun q => h (Or.inr q))]
def careRel (pt care bl before to g b g' : Int32) : Prop :=
  (¬ (pt = 1 ∨ pt = 2) ∧ g' = g) ∨ ((pt = 1 ∨ pt = 2) ∧ care = 1 ∧ ((bl = 0 ∧ g' = g) ∨ (¬ bl = 0 ∧ shadeRel to g b g'))) ∨ ((pt = 1 ∨ pt = 2) ∧ care = 2 ∧ ((before = to ∧ g' = g) ∨ (¬ before = to ∧ shadeRel before g b g')))
theorem care_sim {w m : St} {B : Nat} {ex rw li : List Nat} (h : SimB w (m.2 0) B ex rw li) {bl before to : Int32} (hb : okr (w.1 13) before) (ht : okr (w.1 13) to) :
    ∃ w' s' rw', f_X5_takeCare bl before to w = some (0, w') ∧ f_X7_cares before to bl m = some (0, sG m 0 s') ∧ SimB w' s' B ex rw' li ∧ careRel (w.1 15) (w.1 10) bl before to (w.1 16) (w.1 17) (w'.1 16) ∧ sameX w w' := by
  have hN := h.2.2.2.2.2.2.2.2.2.2.2.2.1
  have h226 : m.2 0 226 = w.1 15 := hN.1
  have h234 : m.2 0 234 = w.1 10 := hN.2.2.2.2.2.2.2.2
  have hcare := h.2.2.2.2.2.2.2.2.2.2.2.2.2.2.1
  by_cases hm : w.1 15 = 1 ∨ w.1 15 = 2
  · have hnz : ¬ ndI (w.1 15) = 0 := fun q => ndI_0.mp q hm
    rcases hcare with hc | hc
    · by_cases hbl : bl = 0
      · refine ⟨w, m.2 0, rw, ?_, ?_, h, Or.inr (Or.inl ⟨hm, hc, Or.inl ⟨hbl, rfl⟩⟩), sameX.rf w⟩
        · unfold f_X5_takeCare
          simp only [e_needs, Option.bind_some, hnz, if_false, hc, if_true, hbl]
        · rw [sG_self]
          unfold f_X7_cares
          simp only [e_isMarking, h226, Option.bind_some, hnz, if_false, c234, h234, hc, if_true, hbl]
          rw [if_pos ib234, if_pos ib234, if_neg (by decide)]
      · obtain ⟨w', s', rw', e1, e2, hS, hR, hX⟩ := shade_sim h ht
        have h234' : s' 234 = 1 := by
          have := hS.2.2.2.2.2.2.2.2.2.2.2.2.1.2.2.2.2.2.2.2.2
          rw [this, hX.1 10 (by decide) (by decide)]; exact hc
        refine ⟨w', s', rw', ?_, ?_, hS, Or.inr (Or.inl ⟨hm, hc, Or.inr ⟨hbl, hR⟩⟩), hX⟩
        · unfold f_X5_takeCare
          simp only [e_needs, Option.bind_some, hnz, if_false, hc, if_true, hbl, e1]
        · unfold f_X7_cares
          simp only [e_isMarking, h226, Option.bind_some, hnz, if_false, c234, h234, hc, if_true, hbl, e2, sG_2, h234']
          rw [if_pos ib234, if_pos ib234, if_neg (by decide)]
    · have hc1 : ¬ w.1 10 = 1 := fun q => by rw [hc] at q; exact absurd q (by decide)
      by_cases hbt : before = to
      · refine ⟨w, m.2 0, rw, ?_, ?_, h, Or.inr (Or.inr ⟨hm, hc, Or.inl ⟨hbt, rfl⟩⟩), sameX.rf w⟩
        · unfold f_X5_takeCare
          simp only [e_needs, Option.bind_some, hnz, if_false, hc1, if_true, hbt]
        · rw [sG_self]
          unfold f_X7_cares
          simp only [e_isMarking, h226, Option.bind_some, hnz, if_false, c234, h234, hc, if_true, hbt]
          rw [if_pos ib234, if_neg (by decide), if_pos ib234]
      · obtain ⟨w', s', rw', e1, e2, hS, hR, hX⟩ := shade_sim h hb
        refine ⟨w', s', rw', ?_, ?_, hS, Or.inr (Or.inr ⟨hm, hc, Or.inr ⟨hbt, hR⟩⟩), hX⟩
        · unfold f_X5_takeCare
          simp only [e_needs, Option.bind_some, hnz, if_false, hc1, hbt, e1]
        · unfold f_X7_cares
          simp only [e_isMarking, h226, Option.bind_some, hnz, if_false, c234, h234, hc, if_true, hbt, e2]
          rw [if_pos ib234, if_neg (by decide), if_pos ib234]
  · have hz : ndI (w.1 15) = 0 := ndI_0.mpr hm
    refine ⟨w, m.2 0, rw, ?_, ?_, h, Or.inl ⟨hm, rfl⟩, sameX.rf w⟩
    · unfold f_X5_takeCare
      simp only [e_needs, Option.bind_some, hz, if_true]
    · rw [sG_self]
      unfold f_X7_cares
      simp only [e_isMarking, h226, Option.bind_some, hz, if_true]
theorem gR_upd {p : Int32} {R s : Nat → Int32} {base i : Nat} (g : gR p R s base) {v : Int32} (hv : okr p v) : gR p (upd R i v) (upd s (base + i) v) base := by
  intro j hj
  by_cases e : j = i
  · subst e; rw [upd_eq, upd_eq]; exact ⟨hv, rfl⟩
  · rw [upd_ne e, upd_ne (by omega)]; exact g j hj
/-- the world behind a root's writing, before care -/
theorem root_set {w : St} {s : Nat → Int32} {B : Nat} {ex rw li : List Nat} (h : SimB w s B ex rw li) {i : Nat} (hi : i < 4) {to : Int32} (ht : okr (w.1 13) to) : SimB (sG w 2 (upd (w.2 2) i to)) (upd s (218 + i) to) B ex rw li := by
  obtain ⟨hA, hP, hF, hW, hCo, hE, hRw, hG, hLi, hO, hR, hH, hN, hI⟩ := h
  refine ⟨hA, gP_s (fun j hj => ?_) hP, gF_s (fun j f hj hf => ?_) hF, gW_s (fun j hj => ?_) hW, gCo_s (fun j hj => ?_) hCo, gE_s (fun j hj => ?_) hE, gL_s (fun j hj => ?_) hRw, hG, gL_s (fun j hj => ?_) hLi, hO, gR_upd hR ht, gR_s (fun j hj => ?_) hH, gNu_s (fun j h1 h2 => ?_) hN, hI⟩ <;> simp (disch := omega) only [upd_ne]
theorem holder_set {w : St} {s : Nat → Int32} {B : Nat} {ex rw li : List Nat} (h : SimB w s B ex rw li) {i : Nat} (hi : i < 4) {to : Int32} (ht : okr (w.1 13) to) : SimB (sG w 3 (upd (w.2 3) i to)) (upd s (222 + i) to) B ex rw li := by
  obtain ⟨hA, hP, hF, hW, hCo, hE, hRw, hG, hLi, hO, hR, hH, hN, hI⟩ := h
  refine ⟨hA, gP_s (fun j hj => ?_) hP, gF_s (fun j f hj hf => ?_) hF, gW_s (fun j hj => ?_) hW, gCo_s (fun j hj => ?_) hCo, gE_s (fun j hj => ?_) hE, gL_s (fun j hj => ?_) hRw, hG, gL_s (fun j hj => ?_) hLi, hO, gR_s (fun j hj => ?_) hR, gR_upd hH ht, gNu_s (fun j h1 h2 => ?_) hN, hI⟩ <;> simp (disch := omega) only [upd_ne]
def sameR (i : Nat) (to : Int32) (w w' : St) : Prop := (∀ r, r ≠ 16 → r ≠ 24 → w'.1 r = w.1 r) ∧ w'.2 2 = upd (w.2 2) i to ∧ ∀ a, a ≠ 2 → a ≠ 5 → w'.2 a = w.2 a
theorem refer_sim {w m : St} {B : Nat} {ex rw li : List Nat} (h : SimB w (m.2 0) B ex rw li) {i : Nat} (hi : i < 4) {to : Int32} (ht : okr (w.1 13) to) :
    ∃ w' s' rw', f_X5_referRoot (nI i) to w = some (0, w') ∧ f_X7_writesRoot (nI i) to m = some (w.2 2 i, sG m 0 s') ∧ SimB w' s' B ex rw' li ∧ careRel (w.1 15) (w.1 10) 1 (w.2 2 i) to (w.1 16) (w.1 17) (w'.1 16) ∧ sameR i to w w' := by
  have hR := h.2.2.2.2.2.2.2.2.2.2.1
  have hbef := (hR i hi).1
  have hs := (hR i hi).2
  have h1 : SimB (sG w 2 (upd (w.2 2) i to)) ((sG m 0 (upd (m.2 0) (218 + i) to)).2 0) B ex rw li := by
    rw [sG_2]; exact root_set h hi ht
  obtain ⟨w', s', rw', e1, e2, hS, hC, hX⟩ := care_sim (bl := 1) h1 hbef ht
  rw [sG_sG] at e2
  refine ⟨w', s', rw', ?_, ?_, hS, hC, fun r a b => hX.1 r a b, ?_, fun a h2 h5 => ?_⟩
  · unfold f_X5_referRoot
    simp (disch := omega) only [e_isIn, isI_in, Option.bind_some, oz, if_false, ibN, hi, if_true, clN, sA]
    rw [e1]
    rfl
  · have h235 : 218 + i < 235 := by omega
    unfold f_X7_writesRoot
    simp (disch := omega) only [addL, ibN, clN, h235, if_true, sA, hs]
    rw [e2]
    rfl
  · rw [hX.2 2 (by decide)]
    exact sG_2 _ _ _
  · rw [hX.2 a h5]
    show (if a = 2 then _ else w.2 a) = w.2 a
    rw [if_neg h2]
theorem shade_sub {x g b g' : Int32} (h : shadeRel x g b g') : ∀ j, tb g j = true → tb g' j = true := fun j q => (h j).mpr (Or.inl q)
theorem shade_nw {x g b g' : Int32} (h : shadeRel x g b g') {j : Nat} (hj : j < 24) (e : x = nI j) : nw g' b j := by
  cases q : tb b j
  · exact Or.inl ((h j).mpr (Or.inr ⟨e, hj, q⟩))
  · exact Or.inr q
/-- colours behind a root's writing -/
theorem col_root {pt g b care p fr g' before to : Int32} {F R Hd : Nat → Int32} {li : List Nat} (h : gCol pt g b care p fr F R Hd li) {i : Nat} (hb : before = R i) (hc : careRel pt care 1 before to g b g')
    (h2 : pt = 1 ∨ pt = 2 → care = 2 → ∀ k, k < 24 → to = nI k → safe care g b F k) (h3 : pt = 3 → ∀ f, f ≤ 24 → fr = nI f → ∀ k, k < 24 → to = nI k → kept b f k) : gCol pt g' b care p fr F (upd R i to) Hd li := by
  obtain ⟨c0, c1, c3⟩ := h
  refine ⟨fun q => ?_, fun q => ?_, fun q f hf hfr => ?_⟩
  · rcases hc with ⟨_, e⟩ | ⟨z, _⟩ | ⟨z, _⟩
    · rw [e]; exact c0 q
    · rcases z with z | z <;> rw [z] at q <;> exact absurd q (by decide)
    · rcases z with z | z <;> rw [z] at q <;> exact absurd q (by decide)
  · rcases hc with ⟨z, _⟩ | ⟨_, hc, z⟩ | ⟨_, hc, z⟩
    · exact absurd q z
    · rcases z with ⟨z, _⟩ | ⟨_, z⟩
      · exact absurd z (by decide)
      · exact gM_root (gM_g (shade_sub z) (c1 q)) (fun k hk e => Or.inl (shade_nw z hk e))
    · rcases z with ⟨z, e⟩ | ⟨_, z⟩
      · rw [e]; exact gM_root (c1 q) (h2 q hc)
      · exact gM_root (gM_g (shade_sub z) (c1 q)) (fun k hk e => safe_g (shade_sub z) hk (h2 q hc k hk e))
  · rcases hc with ⟨_, e⟩ | ⟨z, _⟩ | ⟨z, _⟩
    · rw [e]; exact gK3_root (c3 q f hf hfr) (h3 q f hf hfr)
    · rcases z with z | z <;> rw [z] at q <;> exact absurd q (by decide)
    · rcases z with z | z <;> rw [z] at q <;> exact absurd q (by decide)
