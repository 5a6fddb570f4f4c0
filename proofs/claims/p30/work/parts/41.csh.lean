/-! PURE: the law's shading, care and roots beside the model's -/
theorem e_shades_v {k n : Nat} {m : St} (hk : k < 24) (h0 : m.2 0 (7 * k + 5) = 0) (h1 : m.2 0 168 = nI n) (hn : n ≤ 24) : f_X7_shades (nI k) m = some (0, sG m 0 (shS (m.2 0) k n)) := by
  have h235 : 169 + n < 235 := by omega
  have e1 : (upd (m.2 0) (7 * k + 5) 1) 168 = nI n := by rw [upd_ne (by omega)]; exact h1
  have e2 : (upd (upd (m.2 0) (7 * k + 5) 1) 168 (nI (n + 1))) 168 = nI (n + 1) := upd_eq _ _ _
  have e3 : ib (168 + nI (n + 1)) 235 := by rw [addL]; exact (ibN (by omega)).mpr (by omega)
  have e4 : (168 + nI (n + 1)).toNatClampNeg = 169 + n := by rw [addL, clN (by omega)]; omega
  unfold f_X7_shades
  rw [if_neg (nI_pos (by omega)), e_of5 hk]
  simp only [Option.bind_some, h0, if_true, show f_X7_sets (nI k) 5 1 m = some (0, sG m 0 (upd (m.2 0) (7 * k + 5) 1)) from e_sets (j := 5) (by omega) 1, sA, sG_2, sG_sG, c168, e1, addR, e2, e4]
  rw [if_pos ib168, if_pos ib168, if_pos ib168, if_pos e3]
  rfl
def lenS (s : Nat → Int32) : Prop := (∃ n, n ≤ 24 ∧ s 168 = nI n) ∧ ∃ n, n ≤ 24 ∧ s 193 = nI n
theorem SimB_len {w : St} {s : Nat → Int32} {B : Nat} {ex rw li : List Nat} (h : SimB w s B ex rw li) : lenS s := by
  obtain ⟨hA, hP, hF, hW, hCo, hE, hRw, hG, hLi, hO, hR, hH, hN, hI⟩ := h
  exact ⟨⟨rw.length, hRw.1.2.1, hRw.2.1.trans hRw.1.1⟩, ⟨li.length, hLi.1.2.1, hLi.2.1.trans hLi.1.1⟩⟩
def frS (s s' : Nat → Int32) : Prop := (∀ i, 193 ≤ i → s' i = s i) ∧ ∀ k, k < 24 → s' (7 * k) = s (7 * k)
theorem frS.rf (s : Nat → Int32) : frS s s := ⟨fun _ _ => rfl, fun _ _ => rfl⟩
theorem frS.tr {a b c : Nat → Int32} (h : frS a b) (k : frS b c) : frS a c := ⟨fun i hi => (k.1 i hi).trans (h.1 i hi), fun i hi => (k.2 i hi).trans (h.2 i hi)⟩
def frB (s s' : Nat → Int32) : Prop := (∀ k, k < 24 → s' (7 * k) = s (7 * k)) ∧ s' 229 = s 229 ∧ s' 230 = s 230
theorem frB.rf (s : Nat → Int32) : frB s s := ⟨fun _ _ => rfl, rfl, rfl⟩
theorem frB.tr {a b c : Nat → Int32} (h : frB a b) (k : frB b c) : frB a c := ⟨fun i hi => (k.1 i hi).trans (h.1 i hi), k.2.1.trans h.2.1, k.2.2.trans h.2.2⟩
theorem frS.b {s s' : Nat → Int32} (h : frS s s') : frB s s' := ⟨h.2, h.1 229 (by omega), h.1 230 (by omega)⟩
/-- those that came, without those that went, are those that are there -/
def cntP (s : Nat → Int32) : Nat := cnt (fun k => decide (s (7 * k) = 1)) 24
def Bal (s : Nat → Int32) : Prop := s 229 - s 230 = nI (cntP s)
theorem frB.bal {s s' : Nat → Int32} (h : frB s s') (b : Bal s) : Bal s' := by
  unfold Bal cntP at *
  rw [h.2.1, h.2.2, b]
  congr 1
  exact cnt_congr (fun k hk => by rw [h.1 k hk])
theorem cnt_one {f f' : Nat → Bool} {n k : Nat} (h : ∀ j, j < n → j ≠ k → f' j = f j) (hk : k < n) (h1 : f k = true) (h2 : f' k = false) : cnt f n = cnt f' n + 1 := by
  induction n with
  | zero => omega
  | succ n ih =>
    unfold cnt
    by_cases e : k = n
    · subst e
      rw [h1, h2, cnt_congr (fun j hj => h j (by omega) (by omega))]
      simp
    · rw [ih (fun j hj q => h j (by omega) q) (by omega), h n (by omega) (fun q => e q.symm)]
      omega
theorem En_c {m : St} {s : Nat → Int32} (h : En m s) {k : Nat} (hk : k < 24) (hp : s (7 * k) = 1) : ¬ m.2 2 k < 0 ∧ s (7 * k + 4) = m.2 3 k ∧ s (7 * k + 5) = m.2 2 k ∧ s (7 * k + 6) = m.2 4 k := by
  have hc := En_pres h hk hp
  exact ⟨hc, (h.1 k hk).2 hc⟩
theorem En_g {m : St} {s : Nat → Int32} (h : En m s) : eG (m.2 0) s := h.2.2.2.2
theorem c_shade {m M : St} {x : Int32} {s' : Nat → Int32} (hE : En m (M.2 0)) (hx : okS (M.2 0) x) (hb : lenS (M.2 0)) (hb' : lenS s') (hX : f_X7_shades x M = some (0, sG M 0 s')) : ∃ m', f_L_shade x m = some (0, m') ∧ En m' s' ∧ frS (M.2 0) s' := by
  rcases hx with rfl | ⟨k, hk, rfl, hp⟩
  · rw [e_shades_m1] at hX
    have e : s' = M.2 0 := (some_sG (M := M) (by rw [sG_self]; exact hX)).symm
    subst e
    refine ⟨m, ?_, hE, frS.rf _⟩
    unfold f_L_shade
    rw [if_pos (by decide)]
  · obtain ⟨hc, _, h5, _⟩ := En_c hE hk hp
    have ibk : ib (nI k) 24 := (ibN (by omega)).mpr hk
    have ck : (nI k).toNatClampNeg = k := clN (by omega)
    by_cases h0 : m.2 2 k = 0
    · obtain ⟨n, hn, e168⟩ := hb.1
      rw [e_shades_v hk (h5.trans h0) e168 hn] at hX
      have e := some_sG hX
      subst e
      obtain ⟨n2, hn2, e2⟩ := hb'.1
      have e3 : shS (M.2 0) k n 168 = nI (n + 1) := by
        unfold shS
        rw [upd_ne (by omega), upd_eq]
      have hn24 : n < 24 := by
        have := nI_inj (by omega) (by omega) (e3.symm.trans e2)
        omega
      have hg : m.2 0 10 = nI n := (En_g hE).2.2.2.2.2.2.2.2.2.2.symm.trans e168
      refine ⟨sG (sG (sG m 2 (upd (m.2 2) k 1)) 6 (upd (m.2 6) n (nI k))) 0 (upd (m.2 0) 10 (nI (n + 1))), ?_, ?_, ?_⟩
      · unfold f_L_shade
        simp only [ck, cl_10, hg]
        rw [if_neg (nI_pos (by omega)), if_pos ibk, if_pos h0, if_pos ibk, if_pos i11_10, if_pos ((ibN (by omega)).mpr hn24), if_pos i11_10, if_pos i11_10, addR]
        simp only [sA, ck, cl_10, clN (show n < 2147483648 by omega)]
        rfl
      · exact E_row (E_g10 (E_c hE hk hc (v := 1) (by decide)) (nI (n + 1))) hn24 (nI k)
      · refine ⟨fun i hi => ?_, fun i hi => ?_⟩ <;> unfold shS <;> simp (disch := omega) only [upd_ne]
    · rw [e_shades_n hk (fun q => h0 (h5.symm.trans q))] at hX
      have e : s' = M.2 0 := (some_sG (M := M) (by rw [sG_self]; exact hX)).symm
      subst e
      refine ⟨m, ?_, hE, frS.rf _⟩
      unfold f_L_shade
      simp only [ck]
      rw [if_neg (nI_pos (by omega)), if_pos ibk, if_neg h0]
/-- class, model and law shade alike -/
theorem T_shade {w m M : St} {B : Nat} {ex rw li : List Nat} (h : SimB w (M.2 0) B ex rw li) (hE : En m (M.2 0)) {x : Int32} (hx : okr (w.1 13) x) :
    ∃ w' s' rw' m', f_X4_shade x w = some (0, w') ∧ f_X7_shades x M = some (0, sG M 0 s') ∧ f_L_shade x m = some (0, m') ∧ SimB w' s' B ex rw' li ∧ En m' s' ∧ frS (M.2 0) s' ∧ sameX w w' := by
  obtain ⟨w', s', rw', e1, e2, e3, _, e5⟩ := shade_sim h hx
  obtain ⟨m', q1, q2, q3⟩ := c_shade hE (okr_okS h.2.1 hx) (SimB_len h) (SimB_len e3) e2
  exact ⟨w', s', rw', m', e1, e2, q1, e3, q2, q3, e5⟩
theorem T_care {w m M : St} {B : Nat} {ex rw li : List Nat} (h : SimB w (M.2 0) B ex rw li) (hE : En m (M.2 0)) {bl before to : Int32} (hb : okr (w.1 13) before) (ht : okr (w.1 13) to) :
    ∃ s' m', f_X7_cares before to bl M = some (0, sG M 0 s') ∧ f_L_care before to bl m = some (0, m') ∧ En m' s' ∧ frS (M.2 0) s' := by
  have hN := h.2.2.2.2.2.2.2.2.2.2.2.2.1
  have hI := h.2.2.2.2.2.2.2.2.2.2.2.2.2
  have e226 : M.2 0 226 = m.2 0 0 := (En_g hE).1
  have e234 : M.2 0 234 = m.2 0 8 := (En_g hE).2.2.2.2.2.2.2.2.1
  have hcare : m.2 0 8 = 1 ∨ m.2 0 8 = 2 := by rw [← e234, hN.2.2.2.2.2.2.2.2]; exact hI.2.1
  have n12 : ¬ (1 : Int32) = 2 := by decide
  have n21 : ¬ (2 : Int32) = 1 := by decide
  have tM : ∀ M1 : St, M1.2 0 234 = m.2 0 8 → m.2 0 8 = 1 → M1.2 0 (234 : Int32).toNatClampNeg = 1 := fun M1 q z => by rw [c234, q, z]
  by_cases hm : m.2 0 0 = 1 ∨ m.2 0 0 = 2
  · have mk1 : ∀ {β : Type} (F : Int32 → Option β), ((if m.2 0 0 = 1 then some (1 : Int32) else if ib 0 11 then (if m.2 0 0 = 2 then some (1 : Int32) else some (0 : Int32)) else none).bind F) = F 1 := by
      intro β F
      rcases hm with q | q
      · rw [q, if_pos rfl]; rfl
      · rw [q, if_neg n21, if_pos i11_0, if_pos rfl]; rfl
    have mk2 : f_X7_isMarking M = some (1, M) := by
      rw [e_isMarking, e226]
      unfold ndI
      rcases hm with q | q
      · rw [q, if_pos rfl]
      · rw [q, if_neg n21, if_pos rfl]
    rcases hcare with hc | hc
    · by_cases hbl : bl = 0
      · refine ⟨M.2 0, m, ?_, ?_, hE, frS.rf _⟩
        · rw [sG_self]
          unfold f_X7_cares
          rw [mk2]
          simp only [Option.bind_some, oz, if_false, c234, e234]
          rw [if_pos ib234, hc, if_pos rfl, if_pos hbl, if_pos ib234, if_neg n12]
        · unfold f_L_care
          simp only [cl_0, cl_8]
          rw [if_pos i11_0, mk1, if_neg (show ¬ (1 : Int32) = 0 by decide), if_pos i11_8, hc, if_pos rfl, if_pos hbl, Option.bind_some, if_neg (show ¬ (1 : Int32) = 0 by decide), if_pos i11_8, hc, if_neg n12]
      · obtain ⟨w', s', rw', m', _, q2, q3, q4, q5, q6, _⟩ := T_shade h hE ht
        have e2 : s' 234 = 1 := (q6.1 234 (by omega)).trans (e234.trans hc)
        have e3 : m'.2 0 8 = 1 := (En_g q5).2.2.2.2.2.2.2.2.1.symm.trans e2
        refine ⟨s', m', ?_, ?_, q5, q6⟩
        · unfold f_X7_cares
          rw [mk2]
          simp only [Option.bind_some, oz, if_false, c234, e234]
          rw [if_pos ib234, hc, if_pos rfl, if_neg hbl, q2]
          simp only [Option.bind_some, sG_2, c234]
          rw [if_pos ib234, e2, if_neg n12]
        · unfold f_L_care
          simp only [cl_0, cl_8]
          rw [if_pos i11_0, mk1, if_neg (show ¬ (1 : Int32) = 0 by decide), if_pos i11_8, hc, if_pos rfl, if_neg hbl, q3]
          simp only [Option.bind_some]
          rw [if_neg (show ¬ (1 : Int32) = 0 by decide), if_pos i11_8, e3, if_neg n12]
    · by_cases hbt : to = before
      · refine ⟨M.2 0, m, ?_, ?_, hE, frS.rf _⟩
        · rw [sG_self]
          unfold f_X7_cares
          rw [mk2]
          simp only [Option.bind_some, oz, if_false, c234, e234]
          rw [if_pos ib234, hc, if_neg n21, if_pos ib234, if_pos rfl, if_pos hbt.symm]
        · unfold f_L_care
          simp only [cl_0, cl_8]
          rw [if_pos i11_0, mk1, if_neg (show ¬ (1 : Int32) = 0 by decide), if_pos i11_8, hc, if_neg n21, Option.bind_some, if_neg (show ¬ (1 : Int32) = 0 by decide), if_pos i11_8, hc, if_pos rfl, if_pos hbt]
      · obtain ⟨w', s', rw', m', _, q2, q3, q4, q5, q6, _⟩ := T_shade h hE hb
        refine ⟨s', m', ?_, ?_, q5, q6⟩
        · unfold f_X7_cares
          rw [mk2]
          simp only [Option.bind_some, oz, if_false, c234, e234]
          rw [if_pos ib234, hc, if_neg n21, if_pos ib234, if_pos rfl, if_neg (fun q => hbt q.symm), q2]
          rfl
        · unfold f_L_care
          simp only [cl_0, cl_8]
          rw [if_pos i11_0, mk1, if_neg (show ¬ (1 : Int32) = 0 by decide), if_pos i11_8, hc, if_neg n21, Option.bind_some, if_neg (show ¬ (1 : Int32) = 0 by decide), if_pos i11_8, hc, if_pos rfl, if_neg hbt, q3]
          rfl
  · have h1 : ¬ m.2 0 0 = 1 := fun q => hm (Or.inl q)
    have h2 : ¬ m.2 0 0 = 2 := fun q => hm (Or.inr q)
    refine ⟨M.2 0, m, ?_, ?_, hE, frS.rf _⟩
    · rw [sG_self]
      unfold f_X7_cares
      rw [e_isMarking, e226]
      unfold ndI
      rw [if_neg h1, if_neg h2]
      simp only [Option.bind_some, if_true]
    · unfold f_L_care
      simp only [cl_0, cl_8]
      rw [if_pos i11_0, if_neg h1, if_pos i11_0, if_neg h2]
      simp only [Option.bind_some, if_true]
theorem ib8 {j : Nat} (hj : j < 8) : ib (nI j) 8 := (ibN (by omega)).mpr hj
theorem ib24 {j : Nat} (hj : j < 24) : ib (nI j) 24 := (ibN (by omega)).mpr hj
/-- a root is written: class, model, law -/
theorem T_root {w m M : St} {B : Nat} {ex rw li : List Nat} (h : SimB w (M.2 0) B ex rw li) (hE : En m (M.2 0)) {i : Nat} (hi : i < 4) {to : Int32} (ht : okr (w.1 13) to) :
    ∃ w' s' rw' m', f_X5_referRoot (nI i) to w = some (0, w') ∧ f_X7_writesRoot (nI i) to M = some (w.2 2 i, sG M 0 s') ∧ f_L_writeRoot (nI i) to m = some (w.2 2 i, m') ∧ SimB w' s' B ex rw' li ∧ En m' s' ∧ sameR i to w w' ∧ (∀ j, 226 ≤ j → s' j = M.2 0 j) ∧ s' 193 = M.2 0 193 ∧ frB (M.2 0) s' := by
  obtain ⟨w', s', rw', e1, e2, e3, _, e5⟩ := refer_sim h hi ht
  have hR := h.2.2.2.2.2.2.2.2.2.2.1 i hi
  have hti : m.2 7 i = w.2 2 i := (hE.2.2.2.1 i (by omega)).symm.trans hR.2
  have hE1 : En (sG m 7 (upd (m.2 7) i to)) (upd (M.2 0) (218 + i) to) := E_t hE (by omega) to
  obtain ⟨s2, m', q1, q2, q3, q4⟩ := T_care (M := sG M 0 (upd (M.2 0) (218 + i) to)) (m := sG m 7 (upd (m.2 7) i to)) (bl := 1) (by rw [sG_2]; exact root_set h hi ht) (by rw [sG_2]; exact hE1) (show okr ((sG w 2 (upd (w.2 2) i to)).1 13) (w.2 2 i) from hR.1) ht
  have h235 : ib (nI (218 + i)) 235 := (ibN (by omega)).mpr (by omega)
  have c218 : (nI (218 + i)).toNatClampNeg = 218 + i := clN (by omega)
  have ci : (nI i).toNatClampNeg = i := clN (by omega)
  have es : s2 = s' := by
    unfold f_X7_writesRoot at e2
    rw [addL, if_pos h235, if_pos h235, c218, hR.2] at e2
    simp only [sA, c218] at e2
    rw [q1] at e2
    simp only [Option.bind_some, sG_sG] at e2
    injection e2 with e2
    injection e2 with _ e2
    exact sG_inj e2
  subst es
  refine ⟨w', s2, rw', m', e1, e2, ?_, e3, q3, e5, fun j hj => ?_, ?_, fun k hk => ?_, ?_, ?_⟩
  · unfold f_L_writeRoot
    rw [if_pos (ib8 (by omega)), if_pos (ib8 (by omega)), ci, hti]
    simp only [sA, ci]
    rw [q2]
    rfl
  · rw [q4.1 j (by omega), sG_2, upd_ne (by omega)]
  · rw [q4.1 193 (by omega), sG_2, upd_ne (by omega)]
  · rw [q4.2 k hk, sG_2, upd_ne (by omega)]
  · rw [q4.1 229 (by omega), sG_2, upd_ne (by omega)]
  · rw [q4.1 230 (by omega), sG_2, upd_ne (by omega)]
