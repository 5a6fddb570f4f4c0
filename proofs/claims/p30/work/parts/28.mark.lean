/-! PURE: single numbers; the first of a row goes; a step of marking -/
theorem set_20 {w : St} {s : Nat → Int32} {B : Nat} {ex rw li : List Nat} (h : SimB w s B ex rw li) (v : Int32) : SimB (sR w 20 v) (upd s 232 v) B ex rw li := by
  obtain ⟨hA, hP, hF, hW, hCo, hE, hRw, hG, hLi, hO, hR, hH, hN, hI⟩ := h
  refine ⟨hA, gP_s (fun j hj => ?_) hP, gF_s (fun j f hj hf => ?_) hF, gW_s (fun j hj => ?_) hW, gCo_s (fun j hj => ?_) hCo, gE_s (fun j hj => ?_) hE, gL_s (fun j hj => ?_) hRw, hG, gL_s (fun j hj => ?_) hLi, hO, gR_s (fun j hj => ?_) hR, gR_s (fun j hj => ?_) hH, ⟨(upd_ne (by decide)).trans (hN.1), (upd_ne (by decide)).trans (hN.2.1), (upd_ne (by decide)).trans (hN.2.2.1), (upd_ne (by decide)).trans (hN.2.2.2.1), (upd_ne (by decide)).trans (hN.2.2.2.2.1), (upd_ne (by decide)).trans (hN.2.2.2.2.2.1), upd_eq _ _ _, (upd_ne (by decide)).trans (hN.2.2.2.2.2.2.2.1), (upd_ne (by decide)).trans (hN.2.2.2.2.2.2.2.2)⟩, hI⟩ <;> simp (disch := omega) only [upd_ne]
theorem set_21 {w : St} {s : Nat → Int32} {B : Nat} {ex rw li : List Nat} (h : SimB w s B ex rw li) (v : Int32) : SimB (sR w 21 v) (upd s 233 v) B ex rw li := by
  obtain ⟨hA, hP, hF, hW, hCo, hE, hRw, hG, hLi, hO, hR, hH, hN, hI⟩ := h
  refine ⟨hA, gP_s (fun j hj => ?_) hP, gF_s (fun j f hj hf => ?_) hF, gW_s (fun j hj => ?_) hW, gCo_s (fun j hj => ?_) hCo, gE_s (fun j hj => ?_) hE, gL_s (fun j hj => ?_) hRw, hG, gL_s (fun j hj => ?_) hLi, hO, gR_s (fun j hj => ?_) hR, gR_s (fun j hj => ?_) hH, ⟨(upd_ne (by decide)).trans (hN.1), (upd_ne (by decide)).trans (hN.2.1), (upd_ne (by decide)).trans (hN.2.2.1), (upd_ne (by decide)).trans (hN.2.2.2.1), (upd_ne (by decide)).trans (hN.2.2.2.2.1), (upd_ne (by decide)).trans (hN.2.2.2.2.2.1), (upd_ne (by decide)).trans (hN.2.2.2.2.2.2.1), upd_eq _ _ _, (upd_ne (by decide)).trans (hN.2.2.2.2.2.2.2.2)⟩, hI⟩ <;> simp (disch := omega) only [upd_ne]
theorem set_22 {w : St} {s : Nat → Int32} {B : Nat} {ex rw li : List Nat} (h : SimB w s B ex rw li) (v : Int32) : SimB (sR w 22 v) (upd s 230 v) B ex rw li := by
  obtain ⟨hA, hP, hF, hW, hCo, hE, hRw, hG, hLi, hO, hR, hH, hN, hI⟩ := h
  refine ⟨hA, gP_s (fun j hj => ?_) hP, gF_s (fun j f hj hf => ?_) hF, gW_s (fun j hj => ?_) hW, gCo_s (fun j hj => ?_) hCo, gE_s (fun j hj => ?_) hE, gL_s (fun j hj => ?_) hRw, hG, gL_s (fun j hj => ?_) hLi, hO, gR_s (fun j hj => ?_) hR, gR_s (fun j hj => ?_) hH, ⟨(upd_ne (by decide)).trans (hN.1), (upd_ne (by decide)).trans (hN.2.1), (upd_ne (by decide)).trans (hN.2.2.1), (upd_ne (by decide)).trans (hN.2.2.2.1), upd_eq _ _ _, (upd_ne (by decide)).trans (hN.2.2.2.2.2.1), (upd_ne (by decide)).trans (hN.2.2.2.2.2.2.1), (upd_ne (by decide)).trans (hN.2.2.2.2.2.2.2.1), (upd_ne (by decide)).trans (hN.2.2.2.2.2.2.2.2)⟩, hI⟩ <;> simp (disch := omega) only [upd_ne]
theorem set_12 {w : St} {s : Nat → Int32} {B : Nat} {ex rw li : List Nat} (h : SimB w s B ex rw li) (v : Int32) : SimB (sR w 12 v) (upd s 231 v) B ex rw li := by
  obtain ⟨hA, hP, hF, hW, hCo, hE, hRw, hG, hLi, hO, hR, hH, hN, hI⟩ := h
  refine ⟨hA, gP_s (fun j hj => ?_) hP, gF_s (fun j f hj hf => ?_) hF, gW_s (fun j hj => ?_) hW, gCo_s (fun j hj => ?_) hCo, gE_s (fun j hj => ?_) hE, gL_s (fun j hj => ?_) hRw, hG, gL_s (fun j hj => ?_) hLi, hO, gR_s (fun j hj => ?_) hR, gR_s (fun j hj => ?_) hH, ⟨(upd_ne (by decide)).trans (hN.1), (upd_ne (by decide)).trans (hN.2.1), (upd_ne (by decide)).trans (hN.2.2.1), (upd_ne (by decide)).trans (hN.2.2.2.1), (upd_ne (by decide)).trans (hN.2.2.2.2.1), upd_eq _ _ _, (upd_ne (by decide)).trans (hN.2.2.2.2.2.2.1), (upd_ne (by decide)).trans (hN.2.2.2.2.2.2.2.1), (upd_ne (by decide)).trans (hN.2.2.2.2.2.2.2.2)⟩, hI⟩ <;> simp (disch := omega) only [upd_ne]
theorem set_11 {w : St} {s : Nat → Int32} {B : Nat} {ex rw li : List Nat} (h : SimB w s B ex rw li) (v : Int32) : SimB (sR w 11 v) (upd s 229 v) B ex rw li := by
  obtain ⟨hA, hP, hF, hW, hCo, hE, hRw, hG, hLi, hO, hR, hH, hN, hI⟩ := h
  refine ⟨hA, gP_s (fun j hj => ?_) hP, gF_s (fun j f hj hf => ?_) hF, gW_s (fun j hj => ?_) hW, gCo_s (fun j hj => ?_) hCo, gE_s (fun j hj => ?_) hE, gL_s (fun j hj => ?_) hRw, hG, gL_s (fun j hj => ?_) hLi, hO, gR_s (fun j hj => ?_) hR, gR_s (fun j hj => ?_) hH, ⟨(upd_ne (by decide)).trans (hN.1), (upd_ne (by decide)).trans (hN.2.1), (upd_ne (by decide)).trans (hN.2.2.1), upd_eq _ _ _, (upd_ne (by decide)).trans (hN.2.2.2.2.1), (upd_ne (by decide)).trans (hN.2.2.2.2.2.1), (upd_ne (by decide)).trans (hN.2.2.2.2.2.2.1), (upd_ne (by decide)).trans (hN.2.2.2.2.2.2.2.1), (upd_ne (by decide)).trans (hN.2.2.2.2.2.2.2.2)⟩, hI⟩ <;> simp (disch := omega) only [upd_ne]
theorem set_15 {w : St} {s : Nat → Int32} {B : Nat} {ex rw li : List Nat} (h : SimB w s B ex rw li) (v : Int32) (hv : v = 0 ∨ v = 1 ∨ v = 2 ∨ v = 3) : SimB (sR w 15 v) (upd s 226 v) B ex rw li := by
  obtain ⟨hA, hP, hF, hW, hCo, hE, hRw, hG, hLi, hO, hR, hH, hN, hI⟩ := h
  refine ⟨hA, gP_s (fun j hj => ?_) hP, gF_s (fun j f hj hf => ?_) hF, gW_s (fun j hj => ?_) hW, gCo_s (fun j hj => ?_) hCo, gE_s (fun j hj => ?_) hE, gL_s (fun j hj => ?_) hRw, hG, gL_s (fun j hj => ?_) hLi, hO, gR_s (fun j hj => ?_) hR, gR_s (fun j hj => ?_) hH, ⟨upd_eq _ _ _, (upd_ne (by decide)).trans (hN.2.1), (upd_ne (by decide)).trans (hN.2.2.1), (upd_ne (by decide)).trans (hN.2.2.2.1), (upd_ne (by decide)).trans (hN.2.2.2.2.1), (upd_ne (by decide)).trans (hN.2.2.2.2.2.1), (upd_ne (by decide)).trans (hN.2.2.2.2.2.2.1), (upd_ne (by decide)).trans (hN.2.2.2.2.2.2.2.1), (upd_ne (by decide)).trans (hN.2.2.2.2.2.2.2.2)⟩, ⟨hv, hI.2⟩⟩ <;> simp (disch := omega) only [upd_ne]
theorem set_18 {w : St} {s : Nat → Int32} {B : Nat} {ex rw li : List Nat} (h : SimB w s B ex rw li) (v : Int32) (hv : ∃ f, f ≤ 24 ∧ v = nI f) : SimB (sR w 18 v) (upd s 227 v) B ex rw li := by
  obtain ⟨hA, hP, hF, hW, hCo, hE, hRw, hG, hLi, hO, hR, hH, hN, hI⟩ := h
  refine ⟨hA, gP_s (fun j hj => ?_) hP, gF_s (fun j f hj hf => ?_) hF, gW_s (fun j hj => ?_) hW, gCo_s (fun j hj => ?_) hCo, gE_s (fun j hj => ?_) hE, gL_s (fun j hj => ?_) hRw, hG, gL_s (fun j hj => ?_) hLi, hO, gR_s (fun j hj => ?_) hR, gR_s (fun j hj => ?_) hH, ⟨(upd_ne (by decide)).trans (hN.1), upd_eq _ _ _, (upd_ne (by decide)).trans (hN.2.2.1), (upd_ne (by decide)).trans (hN.2.2.2.1), (upd_ne (by decide)).trans (hN.2.2.2.2.1), (upd_ne (by decide)).trans (hN.2.2.2.2.2.1), (upd_ne (by decide)).trans (hN.2.2.2.2.2.2.1), (upd_ne (by decide)).trans (hN.2.2.2.2.2.2.2.1), (upd_ne (by decide)).trans (hN.2.2.2.2.2.2.2.2)⟩, ⟨hI.1, hI.2.1, hv, hI.2.2.2⟩⟩ <;> simp (disch := omega) only [upd_ne]
theorem set_10 {w : St} {s : Nat → Int32} {B : Nat} {ex rw li : List Nat} (h : SimB w s B ex rw li) (v : Int32) (hv : v = 1 ∨ v = 2) : SimB (sR w 10 v) (upd s 234 v) B ex rw li := by
  obtain ⟨hA, hP, hF, hW, hCo, hE, hRw, hG, hLi, hO, hR, hH, hN, hI⟩ := h
  refine ⟨hA, gP_s (fun j hj => ?_) hP, gF_s (fun j f hj hf => ?_) hF, gW_s (fun j hj => ?_) hW, gCo_s (fun j hj => ?_) hCo, gE_s (fun j hj => ?_) hE, gL_s (fun j hj => ?_) hRw, hG, gL_s (fun j hj => ?_) hLi, hO, gR_s (fun j hj => ?_) hR, gR_s (fun j hj => ?_) hH, ⟨(upd_ne (by decide)).trans (hN.1), (upd_ne (by decide)).trans (hN.2.1), (upd_ne (by decide)).trans (hN.2.2.1), (upd_ne (by decide)).trans (hN.2.2.2.1), (upd_ne (by decide)).trans (hN.2.2.2.2.1), (upd_ne (by decide)).trans (hN.2.2.2.2.2.1), (upd_ne (by decide)).trans (hN.2.2.2.2.2.2.1), (upd_ne (by decide)).trans (hN.2.2.2.2.2.2.2.1), upd_eq _ _ _⟩, ⟨hI.1, hv, hI.2.2⟩⟩ <;> simp (disch := omega) only [upd_ne]
def tkS (s : Nat → Int32) (base n : Nat) : Nat → Int32 := fun j => if base + 1 ≤ j ∧ j ≤ base + n then s (j + 1) else if j = base then nI n else s j
theorem takes_loop {base n : Nat} (hb : base + 26 ≤ 235) (hn : n < 24) (x2 : Int32) : ∀ (fuel k : Nat) (m : St), m.2 0 base = nI n → 1 ≤ k → k ≤ n + 1 → n + 1 - k < fuel → ∃ s', f_X7_takes_L21 fuel (nI base) x2 (nI k) m = some (sG m 0 s') ∧ ∀ j, s' j = if base + k ≤ j ∧ j ≤ base + n then m.2 0 (j + 1) else m.2 0 j := by
  intro fuel
  induction fuel with
  | zero => intro k m _ _ _ h; omega
  | succ fuel ih =>
    intro k m h0 h1 hk hf
    have hbi : base < 235 := by omega
    by_cases h : n < k
    · refine ⟨m.2 0, ?_, fun j => by rw [if_neg (by omega)]⟩
      rw [f_X7_takes_L21, sG_self]
      have hlt : nI n < nI k := (nI_ltI (by omega) (by omega)).mpr h
      simp (disch := omega) only [ibN, hbi, if_true, clN, h0, hlt]
    · have hlt : ¬ nI n < nI k := fun q => by have := (nI_ltI (by omega) (by omega)).mp q; omega
      have hi1 : base + k + 1 < 235 := by omega
      have hi2 : base + k < 235 := by omega
      obtain ⟨s', e, hs⟩ := ih (k + 1) (sG m 0 (upd (m.2 0) (base + k) (m.2 0 (base + k + 1)))) (by rw [sG_2, upd_ne (by omega)]; exact h0) (by omega) (by omega) (by omega)
      rw [sG_sG] at e
      refine ⟨s', ?_, fun j => ?_⟩
      · rw [f_X7_takes_L21]
        simp (disch := omega) only [ibN, hbi, if_true, clN, h0, hlt, if_false, nI_add, addR, hi1, hi2, sA]
        exact e
      · rw [hs j, sG_2]
        by_cases q : base + (k + 1) ≤ j ∧ j ≤ base + n
        · rw [if_pos q, if_pos (by omega), upd_ne (by omega)]
        · rw [if_neg q]
          by_cases e2 : j = base + k
          · subst e2; rw [upd_eq, if_pos (by omega)]
          · rw [upd_ne e2, if_neg (by omega)]
theorem e_takes {base n : Nat} {m : St} (hb : base + 26 ≤ 235) (hn : n < 24) (h : m.2 0 base = nI (n + 1)) : f_X7_takes (nI base) m = some (m.2 0 (base + 1), sG m 0 (tkS (m.2 0) base n)) := by
  have hb1 : base + 1 < 235 := by omega
  have hb2 : base < 235 := by omega
  obtain ⟨s', e, hs⟩ := takes_loop hb hn (m.2 0 (base + 1)) BIG 1 (sG m 0 (upd (m.2 0) base (nI n))) (by rw [sG_2, upd_eq]) (Nat.le_refl 1) (by omega) (by unfold BIG; omega)
  rw [sG_sG] at e
  have es : s' = tkS (m.2 0) base n := by
    funext j
    rw [hs j, sG_2]
    unfold tkS
    by_cases q : base + 1 ≤ j ∧ j ≤ base + n
    · rw [if_pos q, if_pos q, upd_ne (by omega)]
    · rw [if_neg q, if_neg q]
      by_cases e2 : j = base
      · subst e2; rw [upd_eq, if_pos rfl]
      · rw [upd_ne e2, if_neg e2]
  unfold f_X7_takes
  simp (disch := omega) only [addR, ibN, hb1, hb2, if_true, clN, h, subL1, sA]
  rw [show f_X7_takes_L21 BIG (nI base) (m.2 0 (base + 1)) 1 (sG m 0 (upd (m.2 0) base (nI n))) = some (sG m 0 s') from e, es]
  rfl
/-- the row without its first one -/
theorem row_take {w : St} {s : Nat → Int32} {B : Nat} {k : Nat} {t li : List Nat} (h : SimB w s B [] (k :: t) li) : SimB (sG (sR w 24 (nI t.length)) 5 (tk (w.2 5) t.length)) (tkS s 168 t.length) B [k] t li ∧ w.2 5 0 = nI k ∧ s 169 = nI k ∧ w.1 24 = nI (t.length + 1) ∧ s 168 = nI (t.length + 1) ∧ t.length < 24 ∧ k < 24 := by
  obtain ⟨hA, hP, hF, hW, hCo, hE, hRw, hG, hLi, hO, hR, hH, hN, hI⟩ := h
  have hlen : t.length + 1 ≤ 24 := hRw.1.2.1
  have h0 := hRw.1.2.2 0 (by rw [List.length_cons]; omega)
  have h1 : s 169 = w.2 5 0 := hRw.2.2 0 (by rw [List.length_cons]; omega)
  have hv : ∀ j, j < t.length → w.2 5 (j + 1) = nI t[j]! ∧ s (170 + j) = w.2 5 (j + 1) := by
    intro j hj
    have a := hRw.1.2.2 (j + 1) (by rw [List.length_cons]; omega)
    have b := hRw.2.2 (j + 1) (by rw [List.length_cons]; omega)
    refine ⟨?_, ?_⟩
    · rw [a.1, List.getElem_cons_succ, getElem!_pos t j hj]
    · rw [show 170 + j = 168 + 1 + (j + 1) by omega]; exact b
  refine ⟨⟨hA, gP_s (fun j hj => ?_) hP, gF_s (fun j f hj hf => ?_) hF, gW_s (fun j hj => ?_) hW, gCo_s (fun j hj => ?_) hCo, gE_s (fun j hj => ?_) hE, ⟨⟨rfl, by omega, fun j hj => ?_⟩, ?_, fun j hj => ?_⟩, hG, gL_s (fun j hj => ?_) hLi, hO, gR_s (fun j hj => ?_) hR, gR_s (fun j hj => ?_) hH, gNu_s (fun j h1 h2 => ?_) hN, hI⟩, h0.1, by rw [h1]; exact h0.1, hRw.1.1, by rw [hRw.2.1]; exact hRw.1.1, by omega, h0.2⟩
  · unfold tkS; rw [if_neg (by omega), if_neg (by omega)]
  · unfold tkS; rw [if_neg (by omega), if_neg (by omega)]
  · unfold tkS; rw [if_neg (by omega), if_neg (by omega)]
  · unfold tkS; rw [if_neg (by omega), if_neg (by omega)]
  · unfold tkS; rw [if_neg (by omega), if_neg (by omega)]
  · have := hRw.1.2.2 (j + 1) (by rw [List.length_cons]; omega)
    rw [List.getElem_cons_succ] at this
    show (sG (sR w 24 (nI t.length)) 5 (tk (w.2 5) t.length)).2 5 j = _ ∧ _
    rw [sG_2, tk_at hj]
    exact this
  · show tkS s 168 t.length 168 = nI t.length
    unfold tkS
    rw [if_neg (by omega), if_pos rfl]
  · rw [sG_2, tk_at hj]
    unfold tkS
    rw [if_pos (by omega), show 168 + 1 + j + 1 = 170 + j by omega]
    exact (hv j hj).2
  · unfold tkS; rw [if_neg (by omega), if_neg (by omega)]
  · unfold tkS; rw [if_neg (by omega), if_neg (by omega)]
  · unfold tkS; rw [if_neg (by omega), if_neg (by omega)]
  · unfold tkS; rw [if_neg (by omega), if_neg (by omega)]
theorem mark_loop {k : Nat} (hk : k < 24) {B : Nat} {li : List Nat} : ∀ (n f : Nat) (w m : St) (rw : List Nat), f ≤ 3 → 3 - f < n → SimB w (m.2 0) B [k] rw li → tb (w.1 13) k = true →
    ∃ w' s' rw', f_X4_markFirst_L10 n (nI k) (nI f) w = some w' ∧ f_X7_blackens_L10 n (nI k) (nI f) m = some (sG m 0 s') ∧ SimB w' s' B [k] rw' li ∧ (∀ j, tb (w.1 16) j = true → tb (w'.1 16) j = true) ∧ (∀ f' j, f ≤ f' → f' < 3 → j < 24 → w.2 1 (3 * k + f') = nI j → nw (w'.1 16) (w'.1 17) j) ∧ sameX w w' := by
  intro n
  induction n with
  | zero => intro f w m rw _ h; omega
  | succ n ih =>
    intro f w m rw hf hn hS hp
    by_cases h : f < 3
    · have hF := hS.2.2.1 k f hk h
      obtain ⟨w1, s1, rw1, e1, e2, hS1, hR1, hX1⟩ := shade_sim hS hF.1
      obtain ⟨w2, s2, rw2, e3, e4, hS2, hm2, hn2, hX2⟩ := ih (f + 1) w1 (sG m 0 s1) rw1 (by omega) (by omega) (by rw [sG_2]; exact hS1) (by rw [hX1.1 13 (by decide) (by decide)]; exact hp)
      rw [sG_sG] at e4
      refine ⟨w2, s2, rw2, ?_, ?_, hS2, fun j q => hm2 j (shade_sub hR1 j q), fun f' j a1 a2 a3 a4 => ?_, hX1.tr hX2⟩
      · rw [f_X4_markFirst_L10]
        simp (disch := omega) only [ltL, h, if_true, e_fieldOf hk h, Option.bind_some, e1, addR]
        exact e3
      · have e5 : f_X7_of (nI k) (nI (1 + f)) m = some (w.2 1 (3 * k + f), m) := by rw [e_of (by omega), hF.2.1 hp]
        rw [f_X7_blackens_L10]
        simp (disch := omega) only [ltL, h, if_true, addL, e5, Option.bind_some, e2, addR]
        exact e4
      · by_cases e : f' = f
        · subst e
          have := shade_nw hR1 a3 a4
          rw [hX2.1 17 (by decide) (by decide), hX1.1 17 (by decide) (by decide)]
          exact this.elim (fun q => Or.inl (hm2 j q)) Or.inr
        · refine hn2 f' j (by omega) a2 a3 ?_
          rw [hX1.2 1 (by decide)]; exact a4
    · refine ⟨w, m.2 0, rw, ?_, ?_, hS, fun j q => q, fun f' j a1 a2 => by omega, sameX.rf w⟩
      · rw [f_X4_markFirst_L10]
        simp (disch := omega) only [ltL, h, if_false]
      · rw [f_X7_blackens_L10, sG_self]
        simp (disch := omega) only [ltL, h, if_false]
theorem tb_sub {x : Int32} {k : Nat} (hk : k < 24) (j : Nat) : tb (x &&& (bI (nI k) ^^^ (-1))) j = true ↔ tb x j = true ∧ j ≠ k := by
  rcases Nat.lt_or_ge j 32 with h | h
  · rw [tb_and, tb_not _ h, tb_bI hk, Bool.and_eq_true]
    by_cases e : j = k <;> simp [e]
  · rw [tb_big _ h, tb_big _ h]
    simp
theorem tb_add {x : Int32} {k : Nat} (hk : k < 24) (j : Nat) : tb (x ||| bI (nI k)) j = true ↔ tb x j = true ∨ j = k := by
  rw [tb_or, tb_bI hk, Bool.or_eq_true, decide_eq_true_iff]
theorem bool_eq_iff {a b : Bool} (h : a = true ↔ b = true) : a = b := by cases a <;> cases b <;> simp_all
/-- a step of marking -/
theorem mark_sim {w m : St} {B : Nat} {k : Nat} {t li : List Nat} (h : SimB w (m.2 0) B [] (k :: t) li) (hc : gM (w.1 10) (w.1 16) (w.1 17) (w.2 1) (w.2 2) li) :
    ∃ w' s' rw', f_X4_markFirst w = some (0, w') ∧ f_X7_blackens m = some (0, sG m 0 s') ∧ SimB w' s' B [] rw' li ∧ gM (w.1 10) (w'.1 16) (w'.1 17) (w.2 1) (w.2 2) li ∧ (∀ r, r ≠ 16 → r ≠ 17 → r ≠ 24 → w'.1 r = w.1 r) ∧ (∀ a, a ≠ 5 → w'.2 a = w.2 a) ∧ w'.1 17 = w.1 17 ||| bI (nI k) ∧ tb (w.1 17) k = false ∧ k < 24 := by
  obtain ⟨h1, e0, e1, e2, e3, hlt, hk⟩ := row_take h
  have hgk : tb (w.1 16) k = true := (h.2.2.2.2.2.2.2.1.2 k).mp (by simp)
  have hpk : tb (w.1 13) k = true := h.1.2.2.2.2.2.1 k hgk
  obtain ⟨w2, s2, rw2, e4, e5, hS2, hm2, hn2, hX2⟩ := mark_loop hk BIG 0 (sG (sR w 24 (nI t.length)) 5 (tk (w.2 5) t.length)) (sG m 0 (tkS (m.2 0) 168 t.length)) t (by omega) (by unfold BIG; omega) (by rw [sG_2]; exact h1) hpk
  rw [sG_sG] at e5
  have hg2 : ∀ j, tb (w2.1 16 &&& (bI (nI k) ^^^ (-1))) j = true ↔ tb (w2.1 16) j = true ∧ j ≠ k := tb_sub hk
  have hb2 : ∀ j, tb (w2.1 17 ||| bI (nI k)) j = true ↔ tb (w2.1 17) j = true ∨ j = k := tb_add hk
  have h17 : w2.1 17 = w.1 17 := hX2.1 17 (by decide) (by decide)
  have h13 : w2.1 13 = w.1 13 := hX2.1 13 (by decide) (by decide)
  refine ⟨sR (sR w2 16 (w2.1 16 &&& (bI (nI k) ^^^ (-1)))) 17 (w2.1 17 ||| bI (nI k)), upd s2 (7 * k + 5) 2, rw2, ?_, ?_, ?_, ?_, fun r a b c => ?_, fun a ha => ?_, ?_, h.1.2.2.2.2.2.2.2 k hgk, hk⟩
  · unfold f_X4_markFirst
    simp only [e_take6 hlt e2, e0, Option.bind_some, show f_X4_markFirst_L10 BIG (nI k) 0 (sG (sR w 24 (nI t.length)) 5 (tk (w.2 5) t.length)) = some w2 from e4, e_bit]
  · unfold f_X7_blackens
    rw [show f_X7_takes 168 m = some (m.2 0 169, sG m 0 (tkS (m.2 0) 168 t.length)) from e_takes (base := 168) (by omega) hlt e3]
    simp only [e1, Option.bind_some, show f_X7_blackens_L10 BIG (nI k) 0 (sG m 0 (tkS (m.2 0) 168 t.length)) = some (sG m 0 s2) from e5, show f_X7_sets (nI k) 5 2 (sG m 0 s2) = some (0, sG (sG m 0 s2) 0 (upd ((sG m 0 s2).2 0) (7 * k + 5) 2)) from e_sets (j := 5) (by omega) 2, sG_2, sG_sG]
  · obtain ⟨hA, hP, hF, hW, hCo, hE, hRw, hG, hLi, hO, hR, hH, hN, hI⟩ := hS2
    obtain ⟨a1, a2, a3, a4, a5, a6, a7, a8⟩ := hA
    have hGn : k ∉ rw2 := by
      have := hG.1
      rw [List.singleton_append, List.nodup_cons] at this
      exact this.1
    refine ⟨⟨a1, a2, S24_and a3, S24_or a4 (S24_bI _), a5, fun j q => a6 j ((hg2 j).mp q).1, fun j q => ((hb2 j).mp q).elim (a7 j) (fun e => ?_), fun j q => ?_⟩, gP_s (fun j hj => ?_) hP, gF_s (fun j f hj hf => ?_) hF, gW_s (fun j hj => ?_) hW, fun j hj hpj => ?_, gE_s (fun j hj => ?_) hE, gL_s (fun j hj => ?_) hRw, ⟨?_, fun j => ?_⟩, gL_s (fun j hj => ?_) hLi, hO, gR_s (fun j hj => ?_) hR, gR_s (fun j hj => ?_) hH, gNu_s (fun j h1 h2 => ?_) hN, hI⟩
    · subst e; show tb (w2.1 13) j = true; rw [h13]; exact hpk
    · have q2 := (hg2 j).mp q
      have := a8 j q2.1
      cases z : tb (w2.1 17 ||| bI (nI k)) j
      · exact z
      · rcases (hb2 j).mp z with z | z
        · rw [this] at z; cases z
        · exact absurd z q2.2
    · simp (disch := omega) only [upd_ne]
    · simp (disch := omega) only [upd_ne]
    · simp (disch := omega) only [upd_ne]
    · show upd s2 (7 * k + 5) 2 (7 * j + 5) = if tb (w2.1 17 ||| bI (nI k)) j then 2 else if tb (w2.1 16 &&& (bI (nI k) ^^^ (-1))) j then 1 else 0
      by_cases e : j = k
      · subst e
        rw [upd_eq, (hb2 j).mpr (Or.inr rfl), if_pos rfl]
      · have z1 : tb (w2.1 17 ||| bI (nI k)) j = tb (w2.1 17) j := bool_eq_iff ((hb2 j).trans ⟨fun q => q.elim id (fun z => absurd z e), Or.inl⟩)
        have z2 : tb (w2.1 16 &&& (bI (nI k) ^^^ (-1))) j = tb (w2.1 16) j := bool_eq_iff ((hg2 j).trans ⟨fun q => q.1, fun q => ⟨q, e⟩⟩)
        rw [z1, z2, upd_ne (by omega)]
        exact hCo j hj hpj
    · simp (disch := omega) only [upd_ne]
    · simp (disch := omega) only [upd_ne]
    · have := hG.1
      rw [List.singleton_append, List.nodup_cons] at this
      exact this.2
    · show j ∈ rw2 ↔ tb (w2.1 16 &&& (bI (nI k) ^^^ (-1))) j = true
      rw [hg2 j, ← hG.2 j, List.singleton_append, List.mem_cons]
      constructor
      · intro q
        exact ⟨Or.inr q, fun e => hGn (e ▸ q)⟩
      · rintro ⟨q | q, e⟩
        · exact absurd q e
        · exact q
    · simp (disch := omega) only [upd_ne]
    · simp (disch := omega) only [upd_ne]
    · simp (disch := omega) only [upd_ne]
    · simp (disch := omega) only [upd_ne]
  · refine gM_mark (g := w.1 16) (b := w.1 17) (g' := w2.1 16) (k := k) hc hgk hm2 (fun j hj e => ?_) hg2 (fun j => ?_)
    · obtain ⟨f, hf, e⟩ := e
      rw [← h17]
      exact hn2 f j (Nat.zero_le _) hf hj e
    · show tb (w2.1 17 ||| bI (nI k)) j = true ↔ _
      rw [hb2 j, h17]
  · show (if r = 17 then _ else if r = 16 then _ else w2.1 r) = w.1 r
    rw [if_neg b, if_neg a, hX2.1 r a c]
    show (if r = 24 then _ else w.1 r) = w.1 r
    rw [if_neg c]
  · show w2.2 a = w.2 a
    rw [hX2.2 a ha]
    show (if a = 5 then _ else w.2 a) = w.2 a
    rw [if_neg ha]
  · show w2.1 17 ||| bI (nI k) = w.1 17 ||| bI (nI k)
    rw [h17]
