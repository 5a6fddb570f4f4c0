/-! PURE: a step of a search, and many -/
def xf (w w' : Nat → Int32) : Prop := ∀ r, r = 10 ∨ r = 11 ∨ r = 12 ∨ r = 19 ∨ r < 10 → w' r = w r
theorem cnt_sub {x : Int32} {k : Nat} (hk : k < 24) (h : tb x k = true) : cnt (tb (x &&& (bI (nI k) ^^^ (-1)))) 24 < cnt (tb x) 24 := by
  refine cnt_lt (k := k) (fun j _ q => ((tb_sub hk j).mp q).1) hk ?_ h
  cases z : tb (x &&& (bI (nI k) ^^^ (-1))) k
  · rfl
  · exact absurd rfl ((tb_sub hk k).mp z).2
theorem cnt_add {x : Int32} {k : Nat} (hk : k < 24) (h : tb x k = false) : cnt (tb x) 24 < cnt (tb (x ||| bI (nI k))) 24 :=
  cnt_lt (k := k) (fun j _ q => (tb_add hk j).mpr (Or.inl q)) hk h ((tb_add hk k).mpr (Or.inr rfl))
theorem gC_mark {w : Nat → Int32} {p g b care fr : Int32} {F R Hd : Nat → Int32} {li : List Nat} (h : w 15 = 1 ∨ w 15 = 2) (hc : gM care g b F R li) : gCol (w 15) g b care p fr F R Hd li := by
  refine ⟨fun q => ?_, fun _ => hc, fun q => ?_⟩
  · rw [q] at h; exact absurd h (by decide)
  · rw [q] at h; exact absurd h (by decide)
theorem step_sim {w m : St} {B : Nat} {rw li : List Nat} (h : SimL w (m.2 0) B rw li) (h0 : ¬ w.1 15 = 0) :
    ∃ w' s' rw' li', f_X4_advance w = some (0, w') ∧ f_X7_steps m = some (0, sG m 0 s') ∧ SimL w' s' B rw' li' ∧ mu w'.1 < mu w.1 ∧ (w'.1 22 = w.1 22 ∨ w'.1 22 = w.1 22 + 1) ∧ xf w.1 w'.1 ∧ w'.2 0 = w.2 0 := by
  have ib232 : ib 232 235 := by decide
  have c232 : (232 : Int32).toNatClampNeg = 232 := by decide
  obtain ⟨hS, hC⟩ := h
  have hN := hS.2.2.2.2.2.2.2.2.2.2.2.2.1
  have hI := hS.2.2.2.2.2.2.2.2.2.2.2.2.2
  have h20 : m.2 0 232 = w.1 20 := hN.2.2.2.2.2.2.1
  have hS1 := set_20 hS (w.1 20 + 1)
  have hm1 : (sG m 0 (upd (m.2 0) 232 (w.1 20 + 1))).2 0 = upd (m.2 0) 232 (w.1 20 + 1) := sG_2 _ _ _
  have hsA : sA m 0 232 (m.2 0 (232 : Int32).toNatClampNeg + 1) = sG m 0 (upd (m.2 0) 232 (w.1 20 + 1)) := by unfold sA; rw [c232, h20]
  have h226 : upd (m.2 0) 232 (w.1 20 + 1) 226 = w.1 15 := by rw [upd_ne (by decide)]; exact hN.1
  have h168 : upd (m.2 0) 232 (w.1 20 + 1) 168 = w.1 24 := by rw [upd_ne (by decide)]; exact hS.2.2.2.2.2.2.1.2.1.trans rfl
  have hx226 : (sG m 0 (upd (m.2 0) 232 (w.1 20 + 1))).2 0 (226 : Int32).toNatClampNeg = w.1 15 := by rw [c226, hm1]; exact h226
  have hx168 : (sG m 0 (upd (m.2 0) 232 (w.1 20 + 1))).2 0 (168 : Int32).toNatClampNeg = w.1 24 := by rw [c168, hm1]; exact h168
  rw [← hm1] at hS1
  have key : f_X7_steps m = (if w.1 15 = 3 then (f_X7_sweeps (sG m 0 (upd (m.2 0) 232 (w.1 20 + 1)))).bind fun o5 => some (0, o5.2) else if (0 : Int32) < w.1 24 then (f_X7_blackens (sG m 0 (upd (m.2 0) 232 (w.1 20 + 1)))).bind fun o9 => some (0, o9.2) else if w.1 15 = 1 then (f_X7_clears (sG m 0 (upd (m.2 0) 232 (w.1 20 + 1)))).bind fun o13 => if ib 226 235 then some (0, sA o13.2 0 226 2) else none else (f_X7_looksForFinish (sG m 0 (upd (m.2 0) 232 (w.1 20 + 1)))).bind fun o16 => some (0, o16.2)) := by
    unfold f_X7_steps
    rw [if_pos ib232, if_pos ib232, if_pos ib226, hsA, if_pos ib168, if_pos ib226]
    simp only [hx226, hx168]
  by_cases h3 : w.1 15 = 3
  · obtain ⟨w', s', e1, e2, a1, a2, a3, a4, a5⟩ := sweep_sim (w := sR w 20 (w.1 20 + 1)) (m := sG m 0 (upd (m.2 0) 232 (w.1 20 + 1))) ⟨hS1, hC⟩ h3
    rw [sG_sG] at e2
    refine ⟨w', s', rw, li, ?_, ?_, a1, a2, a3, fun r hr => (a4 r hr).trans (if_neg (by omega)), a5⟩
    · unfold f_X4_advance
      rw [if_pos h3, e1]
      rfl
    · rw [key, if_pos h3, e2]
      rfl
  · have hpt : w.1 15 = 1 ∨ w.1 15 = 2 := by
      rcases hI.1 with q | q | q | q
      · exact absurd q h0
      · exact Or.inl q
      · exact Or.inr q
      · exact absurd q h3
    have hM := hC.2.1 hpt
    have hmu : ∀ v : Nat → Int32, (v 15 = 1 ∨ v 15 = 2) → mu v = (24 - cnt (tb (v 17)) 24) + cnt (tb (v 14)) 24 + (if v 15 = 1 then 200 else 100) := by
      intro v hv
      unfold mu
      rw [if_neg (fun q => by rw [q] at hv; exact absurd hv (by decide)), if_neg (fun q => by rw [q] at hv; exact absurd hv (by decide))]
    cases rw with
    | cons k t =>
      obtain ⟨w', s', rw', e1, e2, a1, a2, a3, a4, a5, a6, a7⟩ := mark_sim (w := sR w 20 (w.1 20 + 1)) (m := sG m 0 (upd (m.2 0) 232 (w.1 20 + 1))) hS1 hM
      rw [sG_sG] at e2
      have h24 : (0 : Int32) < w.1 24 := by
        have : w.1 24 = nI (t.length + 1) := hS.2.2.2.2.2.2.1.1.1
        have hle : t.length + 1 ≤ 24 := hS.2.2.2.2.2.2.1.1.2.1
        rw [this]
        exact (nI_ltI (a := 0) (by omega) (by omega)).mpr (by omega)
      have h15 : w'.1 15 = w.1 15 := a3 15 (by decide) (by decide) (by decide)
      have h14 : w'.1 14 = w.1 14 := a3 14 (by decide) (by decide) (by decide)
      refine ⟨w', s', rw', li, ?_, ?_, ⟨a1, ?_⟩, ?_, Or.inl (a3 22 (by decide) (by decide) (by decide)), fun r hr => ?_, a4 0 (by decide)⟩
      · unfold f_X4_advance
        rw [if_neg h3, if_pos h24, e1]
        rfl
      · rw [key, if_neg h3, if_pos h24, e2]
        rfl
      · refine gC_mark (w := w'.1) (by rw [h15]; exact hpt) ?_
        rw [a3 10 (by decide) (by decide) (by decide), a4 1 (by decide), a4 2 (by decide)]
        exact a2
      · rw [hmu w.1 hpt, hmu w'.1 (by rw [h15]; exact hpt), h15, h14, a5]
        have c1 := cnt_add a7 a6
        have c2 := cnt_le (tb (w.1 17 ||| bI (nI k))) 24
        have c3 : cnt (tb ((sR w 20 (w.1 20 + 1)).1 17 ||| bI (nI k))) 24 = cnt (tb (w.1 17 ||| bI (nI k))) 24 := rfl
        have c4 : cnt (tb ((sR w 20 (w.1 20 + 1)).1 17)) 24 = cnt (tb (w.1 17)) 24 := rfl
        omega
      · rw [a3 r (by omega) (by omega) (by omega)]
        show (if r = 20 then _ else w.1 r) = w.1 r
        rw [if_neg (by omega)]
    | nil =>
      have h24 : ¬ (0 : Int32) < w.1 24 := by
        have : w.1 24 = nI 0 := hS.2.2.2.2.2.2.1.1.1
        rw [this]
        decide
      by_cases h1 : w.1 15 = 1
      · obtain ⟨H', s', e1, e2, a1, _⟩ := clears_sim (w := sR w 20 (w.1 20 + 1)) (m := sG m 0 (upd (m.2 0) 232 (w.1 20 + 1))) hS1
        rw [sG_sG] at e2
        refine ⟨sR (sG (sR w 20 (w.1 20 + 1)) 3 H') 15 2, upd s' 226 2, [], li, ?_, ?_, ⟨set_15 a1 2 (by simp), ?_⟩, ?_, Or.inl rfl, fun r hr => ?_, rfl⟩
        · unfold f_X4_advance
          rw [if_neg h3, if_neg h24, if_pos h1, e_white]
          simp only [Option.bind_some]
          rw [e1]
          rfl
        · rw [key, if_neg h3, if_neg h24, if_pos h1, e2]
          simp only [Option.bind_some]
          rw [if_pos ib226]
          simp only [sA, c226, sG_2, sG_sG]
        · exact gC_mark (w := (sR (sG (sR w 20 (w.1 20 + 1)) 3 H') 15 2).1) (Or.inr rfl) hM
        · rw [hmu w.1 hpt, hmu (sR (sG (sR w 20 (w.1 20 + 1)) 3 H') 15 2).1 (Or.inr rfl), if_pos h1, if_neg (show ¬ (sR (sG (sR w 20 (w.1 20 + 1)) 3 H') 15 2).1 15 = 1 from fun q => absurd (show (2 : Int32) = 1 from q) (by decide))]
          have c3 : cnt (tb ((sR (sG (sR w 20 (w.1 20 + 1)) 3 H') 15 2).1 17)) 24 = cnt (tb (w.1 17)) 24 := rfl
          have c4 : cnt (tb ((sR (sG (sR w 20 (w.1 20 + 1)) 3 H') 15 2).1 14)) 24 = cnt (tb (w.1 14)) 24 := rfl
          omega
        · show (if r = 15 then _ else if r = 20 then _ else w.1 r) = w.1 r
          rw [if_neg (by omega), if_neg (by omega)]
      · have hp2 : w.1 15 = 2 := hpt.elim (fun q => absurd q h1) id
        by_cases hf : ∃ k, k < 24 ∧ tb (whI w.1 &&& w.1 14) k = true ∧ ∀ j, j < k → tb (whI w.1 &&& w.1 14) j = false
        · obtain ⟨k, hk, hk1, hk2⟩ := hf
          obtain ⟨w', s', rw', e1, e2, a1, a2, a3, a4, a5, a6⟩ := find_some (w := sR w 20 (w.1 20 + 1)) (m := sG m 0 (upd (m.2 0) 232 (w.1 20 + 1))) hS1 hM hk hk1 hk2
          rw [sG_sG] at e2
          have h15 : w'.1 15 = w.1 15 := a5 15 (by decide) (by decide) (by decide) (by decide)
          have h17 : w'.1 17 = w.1 17 := a5 17 (by decide) (by decide) (by decide) (by decide)
          refine ⟨w', s', rw', li ++ [k], ?_, ?_, ⟨a1, ?_⟩, ?_, Or.inl (a5 22 (by decide) (by decide) (by decide) (by decide)), fun r hr => ?_, a6⟩
          · unfold f_X4_advance
            rw [if_neg h3, if_neg h24, if_neg h1, e1]
            rfl
          · rw [key, if_neg h3, if_neg h24, if_neg h1, e2]
            rfl
          · exact gC_mark (w := w'.1) (by rw [h15]; exact hpt) a2
          · rw [hmu w.1 hpt, hmu w'.1 (by rw [h15]; exact hpt), h15, h17, a3]
            have c1 := cnt_sub hk a4
            have c3 : cnt (tb ((sR w 20 (w.1 20 + 1)).1 14 &&& (bI (nI k) ^^^ (-1)))) 24 = cnt (tb (w.1 14 &&& (bI (nI k) ^^^ (-1)))) 24 := rfl
            have c4 : cnt (tb ((sR w 20 (w.1 20 + 1)).1 14)) 24 = cnt (tb (w.1 14)) 24 := rfl
            omega
          · rw [a5 r (by omega) (by omega) (by omega) (by omega)]
            show (if r = 20 then _ else w.1 r) = w.1 r
            rw [if_neg (by omega)]
        · have hn : ∀ j, j < 24 → tb (whI w.1 &&& w.1 14) j = false := by
            intro j
            induction j using Nat.strongRecOn with
            | _ j ih =>
              intro hj
              cases z : tb (whI w.1 &&& w.1 14) j
              · rfl
              · exact absurd ⟨j, hj, z, fun i hi => ih i hi (by omega)⟩ hf
          obtain ⟨w', s', e1, e2, a1, a2, a3, a4, a5⟩ := find_none (w := sR w 20 (w.1 20 + 1)) (m := sG m 0 (upd (m.2 0) 232 (w.1 20 + 1))) hS1 hM hn
          rw [sG_sG] at e2
          refine ⟨w', s', [], li, ?_, ?_, a1, ?_, Or.inl (a4 22 (by decide) (by decide)), fun r hr => ?_, a5⟩
          · unfold f_X4_advance
            rw [if_neg h3, if_neg h24, if_neg h1, e1]
            rfl
          · rw [key, if_neg h3, if_neg h24, if_neg h1, e2]
            rfl
          · rw [hmu w.1 hpt, if_neg h1]
            have : mu w'.1 = 25 := by
              unfold mu
              rw [if_neg (by rw [a2]; decide), if_pos a2, a3]
              rfl
            omega
          · rw [a4 r (by omega) (by omega)]
            show (if r = 20 then _ else w.1 r) = w.1 r
            rw [if_neg (by omega)]
