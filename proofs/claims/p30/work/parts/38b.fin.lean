/-! PURE: finish -/
theorem list_take {w : St} {s : Nat → Int32} {B : Nat} {k : Nat} {ex rw t : List Nat} (h : SimB w s B ex rw (k :: t)) : SimB (sG (sR w 23 (nI t.length)) 4 (tk (w.2 4) t.length)) (tkS s 193 t.length) B ex rw t ∧ w.2 4 0 = nI k ∧ s 194 = nI k ∧ w.1 23 = nI (t.length + 1) ∧ s 193 = nI (t.length + 1) ∧ t.length < 24 ∧ k < 24 ∧ tb (w.1 13) k = true := by
  obtain ⟨hA, hP, hF, hW, hCo, hE, hRw, hG, hLi, hO, hR, hH, hN, hI⟩ := h
  have hlen : t.length + 1 ≤ 24 := hLi.1.2.1
  have h0 := hLi.1.2.2 0 (by rw [List.length_cons]; omega)
  have h1 : s 194 = w.2 4 0 := hLi.2.2 0 (by rw [List.length_cons]; omega)
  have hv : ∀ j, j < t.length → w.2 4 (j + 1) = nI t[j]! ∧ s (195 + j) = w.2 4 (j + 1) := by
    intro j hj
    have a := hLi.1.2.2 (j + 1) (by rw [List.length_cons]; omega)
    have b := hLi.2.2 (j + 1) (by rw [List.length_cons]; omega)
    refine ⟨?_, ?_⟩
    · rw [a.1, List.getElem_cons_succ, getElem!_pos t j hj]
    · rw [show 195 + j = 193 + 1 + (j + 1) by omega]; exact b
  have hnd := hO.1
  rw [List.nodup_cons] at hnd
  refine ⟨⟨hA, gP_s (fun j hj => ?_) hP, gF_s (fun j f hj hf => ?_) hF, gW_s (fun j hj => ?_) hW, gCo_s (fun j hj => ?_) hCo, gE_s (fun j hj => ?_) hE, gL_s (fun j hj => ?_) hRw, hG, ⟨⟨rfl, by omega, fun j hj => ?_⟩, ?_, fun j hj => ?_⟩, ⟨hnd.2, fun x hx => hO.2 x (List.mem_cons_of_mem k hx)⟩, gR_s (fun j hj => ?_) hR, gR_s (fun j hj => ?_) hH, gNu_s (fun j h1 h2 => ?_) hN, hI⟩, h0.1, by rw [h1]; exact h0.1, hLi.1.1, by rw [hLi.2.1]; exact hLi.1.1, by omega, h0.2, hO.2 k (by simp)⟩
  · unfold tkS; rw [if_neg (by omega), if_neg (by omega)]
  · unfold tkS; rw [if_neg (by omega), if_neg (by omega)]
  · unfold tkS; rw [if_neg (by omega), if_neg (by omega)]
  · unfold tkS; rw [if_neg (by omega), if_neg (by omega)]
  · unfold tkS; rw [if_neg (by omega), if_neg (by omega)]
  · unfold tkS; rw [if_neg (by omega), if_neg (by omega)]
  · have := hLi.1.2.2 (j + 1) (by rw [List.length_cons]; omega)
    rw [List.getElem_cons_succ] at this
    show (sG (sR w 23 (nI t.length)) 4 (tk (w.2 4) t.length)).2 4 j = _ ∧ _
    rw [sG_2, tk_at hj]
    exact this
  · show tkS s 193 t.length 193 = nI t.length
    unfold tkS
    rw [if_neg (by omega), if_pos rfl]
  · rw [sG_2, tk_at hj]
    unfold tkS
    rw [if_pos (by omega), show 193 + 1 + j + 1 = 195 + j by omega]
    exact (hv j hj).2
  · unfold tkS; rw [if_neg (by omega), if_neg (by omega)]
  · unfold tkS; rw [if_neg (by omega), if_neg (by omega)]
  · unfold tkS; rw [if_neg (by omega), if_neg (by omega)]
theorem gCol_tail {pt g b care p fr : Int32} {F R Hd : Nat → Int32} {k : Nat} {t : List Nat} (h : gCol pt g b care p fr F R Hd (k :: t)) : gCol pt g b care p fr F R Hd t :=
  ⟨h.1, fun q => ⟨fun x hx => (h.2.1 q).1 x (List.mem_cons_of_mem k hx), (h.2.1 q).2⟩, fun q f hf hfr => ⟨(h.2.2 q f hf hfr).1, (h.2.2 q f hf hfr).2.1, fun x hx => (h.2.2 q f hf hfr).2.2.1 x (List.mem_cons_of_mem k hx), (h.2.2 q f hf hfr).2.2.2⟩⟩
theorem need_done {w1 w2 : St} {s2 : Nat → Int32} {B k : Nat} {rw2 li : List Nat} (hC : gCol (w1.1 15) (w1.1 16) (w1.1 17) (w1.1 10) (w1.1 13) (w1.1 18) (w1.2 1) (w1.2 2) (w1.2 3) li) (hS : SimB w2 s2 B [] rw2 li)
    (hn : ¬ (w1.1 15 = 1 ∨ w1.1 15 = 2) → w2.1 16 = w1.1 16) (hr : w1.1 15 = 1 ∨ w1.1 15 = 2 → shadeRel (nI k) (w1.1 16) (w1.1 17) (w2.1 16)) (hX2 : sameX w1 w2) : Sim w2 s2 B ∧ sf w1 w2 := by
  refine ⟨⟨rw2, li, hS, ?_⟩, fun r hr => hX2.1 r (by omega) (by omega), hX2.2 0 (by decide)⟩
  rw [hX2.1 15 (by decide) (by decide), hX2.1 17 (by decide) (by decide), hX2.1 10 (by decide) (by decide), hX2.1 13 (by decide) (by decide), hX2.1 18 (by decide) (by decide), hX2.2 1 (by decide), hX2.2 2 (by decide), hX2.2 3 (by decide)]
  refine ⟨fun q => ?_, fun q => gM_g (fun x z => shade_sub (hr q) x z) (hC.2.1 q), fun q => ?_⟩
  · rw [hn (by rw [q]; decide)]; exact hC.1 q
  · rw [hn (by rw [q]; decide)]; exact hC.2.2 q
theorem finish_step {w m m' : St} {B : Nat} (h : Sim w (m.2 0) B) (hc : f_X7_changes m = some (0, m')) (h0 : m'.2 0 = m.2 0) (x : Int32) : ChS w m m' B (f_X5_finishFirst x w) (f_X7_finish x m) := by
  obtain ⟨rw, li, hS⟩ := h
  have ib193 : ib 193 235 := by decide
  have ib231 : ib 231 235 := by decide
  have c193 : (193 : Int32).toNatClampNeg = 193 := by decide
  have c231 : (231 : Int32).toNatClampNeg = 231 := by decide
  have hl := hS.1.2.2.2.2.2.2.2.2.1
  have h193 : m.2 0 (193 : Int32).toNatClampNeg = nI li.length := by rw [c193, hl.2.1]; exact hl.1.1
  by_cases hx : x = -1 ∨ isI x 4 = 1
  · cases li with
    | nil =>
      have h193' : m.2 0 (193 : Int32).toNatClampNeg = 0 := h193
      have t0 := e_take5_0 (w := w) hl.1.1
      refine Or.inl ⟨-12, no_12, ?_, ?_⟩
      · unfold f_X5_finishFirst
        rcases hx with rfl | hx
        · simp only [if_true, t0, Option.bind_some]
        · by_cases hm : x = -1
          · subst hm
            simp only [if_true, t0, Option.bind_some]
          · simp only [hm, if_false, e_isIn, hx, t0, Option.bind_some, oz, if_true]
      · unfold f_X7_finish
        rcases hx with rfl | hx
        · rw [if_pos rfl, if_pos ib193, if_pos h193']
        · by_cases hm : x = -1
          · subst hm
            rw [if_pos rfl, if_pos ib193, if_pos h193']
          · rw [if_neg hm, e_isRoot, hx]
            simp only [Option.bind_some, oz, if_false]
            rw [if_pos ib193, if_pos h193']
    | cons k t =>
      obtain ⟨hS1, l0, l1, l2, l3, hlt, hk, hpk⟩ := list_take hS.1
      have hC1 := gCol_tail hS.2
      have hne : ¬ m.2 0 (193 : Int32).toNatClampNeg = 0 := by
        rw [c193, l3]
        exact fun q => by have := (nI_eq (a := t.length + 1) (b := 0) (by omega) (by omega)).mp q; omega
      have hnm : ¬ nI k = -1 := nI_ne_m1 (by omega)
      have hS1' : SimB (sG (sR w 23 (nI t.length)) 4 (tk (w.2 4) t.length)) ((sG m' 0 (tkS (m.2 0) 193 t.length)).2 0) B [] rw t := by rw [sG_2]; exact hS1
      have et := e_take5 hlt l2
      rw [l0] at et
      have emt : f_X7_takes 193 m' = some (nI k, sG m' 0 (tkS (m.2 0) 193 t.length)) := by
        have := e_takes (base := 193) (m := m') (by omega) hlt (by rw [h0]; exact l3)
        rw [h0, show (193 + 1) = 194 by omega, l1] at this
        exact this
      have h12 : (sG (sR w 23 (nI t.length)) 4 (tk (w.2 4) t.length)).1 12 = w.1 12 := rfl
      by_cases hm : x = -1
      · subst hm
        obtain ⟨w2, s2, rw2, b1, b2, b3, b4, b5, b6⟩ := need_sim hS1' (v := nI k) (Or.inr ⟨k, hk, rfl, hpk⟩)
        have b3' := set_12 b3 (w.1 12 + 1)
        obtain ⟨c1, c2⟩ := need_done (w1 := sG (sR w 23 (nI t.length)) 4 (tk (w.2 4) t.length)) hC1 b3 b4 b5 b6
        have hs231 : s2 231 = w.1 12 := b3.2.2.2.2.2.2.2.2.2.2.2.2.1.2.2.2.2.2.1.trans (b6.1 12 (by decide) (by decide))
        have fin : sA (sG m' 0 s2) 0 231 (s2 231 + 1) = sG m' 0 (upd s2 231 (w.1 12 + 1)) := by
          unfold sA
          rw [c231, sG_2, sG_sG, hs231]
        refine Or.inr ⟨nI k, sR w2 12 (w.1 12 + 1), upd s2 231 (w.1 12 + 1), ok_nI (by omega), ?_, ?_, Sim_mono (Nat.le_succ B) ?_, fun r hr => ?_, (b6.2 0 (by decide)).trans rfl⟩
        · unfold f_X5_finishFirst
          simp only [if_true, et, Option.bind_some, hnm, if_false, h12]
          rw [cm_need (nI k) (w.1 12 + 1) _ w2 b1]
          rfl
        · unfold f_X7_finish
          rw [if_pos rfl, if_pos ib193, if_neg hne, hc]
          simp only [Option.bind_some, emt]
          rw [if_pos (show (-1 : Int32) < 0 by decide), shades_ok (m := sG m' 0 (tkS (m.2 0) 193 t.length)) (by rw [sG_2]; exact hS1)]
          simp only [Option.bind_some]
          rcases b2 with ⟨q1, q2⟩ | ⟨q1, q2⟩
          · rw [sG_sG] at q2
            rw [if_pos q1, if_pos ib231, if_pos ib231, ← q2, c231, sG_2, fin]
          · rw [sG_sG] at q2
            rw [if_neg q1, if_pos (show (-1 : Int32) < 24 by decide), q2]
            simp only [Option.bind_some]
            rw [if_pos ib231, if_pos ib231, c231, sG_2, fin]
        · obtain ⟨rw3, li3, d1, d2⟩ := c1
          exact ⟨rw3, li3, set_12 d1 (w.1 12 + 1), d2⟩
        · show (if r = 12 then _ else w2.1 r) = w.1 r
          rw [if_neg (by omega), b6.1 r (by omega) (by omega)]
          show (if r = 23 then _ else w.1 r) = w.1 r
          rw [if_neg (by omega)]
      · rcases isI_or x 4 (by omega) with ⟨i, hi, rfl, hin⟩ | hin
        · have hin' : isI (nI i) 4 = 1 := hin
          have hn0 : ¬ nI i < 0 := nI_pos (by omega)
          obtain ⟨w1, s1, rw1, a1, a2, a3, a4, a5⟩ := refer_sim hS1' hi (to := nI k) (Or.inr ⟨k, hk, rfl, hpk⟩)
          rw [sG_sG] at a2
          have hb : okr (w.1 13) (w.2 2 i) := (hS.1.2.2.2.2.2.2.2.2.2.2.1 i hi).1
          have hb24 : (sG (sR w 23 (nI t.length)) 4 (tk (w.2 4) t.length)).2 2 i < 24 := by
            show w.2 2 i < 24
            rcases hb with q | ⟨z, hz, q, _⟩
            · rw [q]; decide
            · rw [q]; exact (ltL (by omega) (by omega)).mpr (by omega)
          obtain ⟨w2, s2, rw2, b1, b2, b3, b4, b5, b6⟩ := need_sim (m := sG m' 0 s1) (by rw [sG_2]; exact a3) (v := nI k) (Or.inr ⟨k, hk, rfl, by rw [a5.1 13 (by decide) (by decide)]; exact hpk⟩)
          obtain ⟨c1, c2⟩ := ask_done (w := sG (sR w 23 (nI t.length)) 4 (tk (w.2 4) t.length)) hC1 b3 hk a4 a5 b4 b5 b6 (fun q f hf hfr => (hS.2.2.2 q f hf hfr).2.2.1 k (by simp))
          have hs231 : s2 231 = w.1 12 := b3.2.2.2.2.2.2.2.2.2.2.2.2.1.2.2.2.2.2.1.trans ((b6.1 12 (by decide) (by decide)).trans (a5.1 12 (by decide) (by decide)))
          have fin : sA (sG m' 0 s2) 0 231 (s2 231 + 1) = sG m' 0 (upd s2 231 (w.1 12 + 1)) := by
            unfold sA
            rw [c231, sG_2, sG_sG, hs231]
          refine Or.inr ⟨nI k, sR w2 12 (w.1 12 + 1), upd s2 231 (w.1 12 + 1), ok_nI (by omega), ?_, ?_, Sim_mono (Nat.le_succ B) ?_, fun r hr => ?_, c2.2.trans rfl⟩
          · unfold f_X5_finishFirst
            simp only [hm, if_false, e_isIn, hin', Option.bind_some, oz, et, hnm, h12]
            rw [cm_refer hi (nI k) (w.1 12 + 1) _ w1 a1]
            simp only [Option.bind_some]
            rw [cm_need (nI k) (w.1 12 + 1) _ w2 b1]
            rfl
          · unfold f_X7_finish
            rw [if_neg hm, e_isRoot, hin']
            simp only [Option.bind_some, oz, if_false]
            rw [if_pos ib193, if_neg hne, hc]
            simp only [Option.bind_some, emt]
            rw [if_neg hn0, a2]
            simp only [Option.bind_some]
            rw [shades_ok (m := sG m' 0 s1) (by rw [sG_2]; exact a3)]
            simp only [Option.bind_some]
            rcases b2 with ⟨q1, q2⟩ | ⟨q1, q2⟩
            · rw [sG_sG] at q2
              rw [if_pos q1, if_pos ib231, if_pos ib231, ← q2, c231, sG_2, fin]
            · rw [sG_sG] at q2
              rw [if_neg q1, if_pos hb24, q2]
              simp only [Option.bind_some]
              rw [if_pos ib231, if_pos ib231, c231, sG_2, fin]
          · obtain ⟨rw3, li3, d1, d2⟩ := c1
            exact ⟨rw3, li3, set_12 d1 (w.1 12 + 1), d2⟩
          · show (if r = 12 then _ else w2.1 r) = w.1 r
            rw [if_neg (by omega), c2.1 r hr]
            show (if r = 23 then _ else w.1 r) = w.1 r
            rw [if_neg (by omega)]
        · rcases hx with q | q
          · exact absurd q hm
          · exact absurd (hin.symm.trans q) (by decide)
  · have hm : ¬ x = -1 := fun q => hx (Or.inl q)
    have hin : isI x 4 = 0 := (isI_01 x 4).elim id (fun q => absurd (Or.inr q) hx)
    refine Or.inl ⟨-11, no_11, ?_, ?_⟩
    · unfold f_X5_finishFirst
      simp only [hm, if_false, e_isIn, hin, Option.bind_some, if_true]
    · unfold f_X7_finish
      rw [if_neg hm, e_isRoot, hin]
      rfl
