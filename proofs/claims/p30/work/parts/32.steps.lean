/-! PURE: a step of sweeping -/
def lgs (s : Nat → Int32) (k : Nat) (s' : Nat → Int32) : Prop := (∀ y, y < 24 → s' (7 * y) = if y = k then 0 else s (7 * y)) ∧ (∀ y f, y < 24 → f < 3 → s' (7 * y + (1 + f)) = fz k (s (7 * y + (1 + f)))) ∧ (∀ y j, y < 24 → 4 ≤ j → j < 7 → s' (7 * y + j) = s (7 * y + j)) ∧ (∀ j, j < 8 → s' (218 + j) = fz k (s (218 + j))) ∧ (∀ i, 168 ≤ i → i < 218 → s' i = s i) ∧ (∀ i, 226 ≤ i → i ≠ 230 → i ≠ 233 → s' i = s i) ∧ s' 230 = s 230 + 1 ∧ s' 233 = s 233 ||| bI (nI k)
theorem e_letsGo {k : Nat} (hk : k < 24) (m : St) : ∃ s', f_X7_letsGo (nI k) m = some (0, sG m 0 s') ∧ lgs (m.2 0) k s' := by
  obtain ⟨s1, e1, a1, a2⟩ := lg9 (k := k) BIG 0 (sG m 0 (upd (m.2 0) (7 * k) 0)) (by omega) (by unfold BIG; omega)
  rw [sG_sG] at e1
  rw [sG_2] at a1 a2
  obtain ⟨s2, e2, b1, b2⟩ := lg68 (k := k) BIG 0 (sG m 0 s1) (by omega) (by unfold BIG; omega)
  rw [sG_sG] at e2
  rw [sG_2] at b1 b2
  have ib230 : ib 230 235 := by decide
  have ib233 : ib 233 235 := by decide
  have c230 : (230 : Int32).toNatClampNeg = 230 := by decide
  have c233 : (233 : Int32).toNatClampNeg = 233 := by decide
  refine ⟨upd (upd s2 230 (s2 230 + 1)) 233 (s2 233 ||| bI (nI k)), ?_, fun y hy => ?_, fun y f hy hf => ?_, fun y j hy h1 h2 => ?_, fun j hj => ?_, fun i h1 h2 => ?_, fun i h1 h2 h3 => ?_, ?_, ?_⟩
  · unfold f_X7_letsGo
    have hs : f_X7_sets (nI k) 0 0 m = some (0, sG m 0 (upd (m.2 0) (7 * k) 0)) := e_sets (j := 0) (by omega) 0
    rw [hs]
    simp only [Option.bind_some]
    rw [show f_X7_letsGo_L9 BIG (nI k) 0 (sG m 0 (upd (m.2 0) (7 * k) 0)) = some (sG m 0 s1) from e1]
    simp only [Option.bind_some]
    rw [show f_X7_letsGo_L68 BIG (nI k) 0 (sG m 0 s1) = some (sG m 0 s2) from e2]
    simp only [Option.bind_some, sA, c230, c233, sG_2, sG_sG]
    rw [if_pos ib230, if_pos ib230, if_pos ib233, if_pos ib233, upd_ne (show 233 ≠ 230 by decide), bI_nI hk]
  · rw [upd_ne (by omega), upd_ne (by omega), b1 _ (by omega), a1 _ (fun z g a b c => by omega)]
    by_cases e : y = k
    · subst e; rw [upd_eq, if_pos rfl]
    · rw [upd_ne (by omega), if_neg e]
  · rw [upd_ne (by omega), upd_ne (by omega), b1 _ (by omega), a2 y f (Nat.zero_le y) hy hf, upd_ne (by omega)]
  · rw [upd_ne (by omega), upd_ne (by omega), b1 _ (by omega), a1 _ (fun z g a b c => by omega), upd_ne (by omega)]
  · rw [upd_ne (by omega), upd_ne (by omega), b2 j (Nat.zero_le j) hj, a1 _ (fun z g a b c => by omega), upd_ne (by omega)]
  · rw [upd_ne (by omega), upd_ne (by omega), b1 _ (by omega), a1 _ (fun z g a b c => by omega), upd_ne (by omega)]
  · rw [upd_ne h3, upd_ne h2, b1 _ (by omega), a1 _ (fun z g a b c => by omega), upd_ne (by omega)]
  · rw [upd_ne (by omega), upd_eq, b1 _ (by omega), a1 _ (fun z g a b c => by omega), upd_ne (by omega)]
  · rw [upd_eq, b1 _ (by omega), a1 _ (fun z g a b c => by omega), upd_ne (by omega)]
theorem okr_fz {p p' v : Int32} {k : Nat} (hk : k < 24) (hp : ∀ j, tb p' j = true ↔ tb p j = true ∧ j ≠ k) (h : okr p v) : okr p' (fz k v) := by
  unfold fz
  rcases h with rfl | ⟨j, hj, rfl, hjp⟩
  · rw [if_neg (fun e => nI_ne_m1 (by omega) e.symm)]; exact Or.inl rfl
  · by_cases e : j = k
    · subst e; rw [if_pos rfl]; exact Or.inl rfl
    · rw [if_neg (fun q => e (nI_inj (by omega) (by omega) q))]
      exact Or.inr ⟨j, hj, rfl, (hp j).mpr ⟨hjp, e⟩⟩
theorem fz_ne {k : Nat} {v : Int32} (h : v ≠ nI k) : fz k v = v := if_neg h
theorem edge_fz {F F' : Nat → Int32} {k : Nat} (h : ∀ y f, y < 24 → f < 3 → F' (3 * y + f) = if y = k then -1 else fz k (F (3 * y + f))) {y x : Nat} (hy : y < 24) (hx : x < 24) (e : edge F' y x) : y ≠ k ∧ x ≠ k ∧ edge F y x := by
  obtain ⟨f, hf, e⟩ := e
  rw [h y f hy hf] at e
  by_cases q : y = k
  · rw [if_pos q] at e; exact absurd e.symm (nI_ne_m1 (by omega))
  · rw [if_neg q] at e
    unfold fz at e
    split at e
    · exact absurd e.symm (nI_ne_m1 (by omega))
    · next z => exact ⟨q, fun r => z (by rw [e, r]), f, hf, e⟩
theorem rootS_fz {H H' : Nat → Int32} {k : Nat} (h : ∀ j, j < 4 → H' j = fz k (H j)) {x : Nat} (hx : x < 24) (e : rootS H' x) : x ≠ k ∧ rootS H x := by
  obtain ⟨i, hi, e⟩ := e
  rw [h i hi] at e
  unfold fz at e
  split at e
  · exact absurd e.symm (nI_ne_m1 (by omega))
  · next z => exact ⟨fun r => z (by rw [e, r]), i, hi, e⟩
theorem go_sim {w : St} {s s' : Nat → Int32} {B : Nat} {rw li : List Nat} {k : Nat} {F' H' : Nat → Int32} (h : SimB w s B [] rw li) (hk : k < 24) (hw : ¬ nw (w.1 16) (w.1 17) k) (hR0 : ¬ rootS (w.2 2) k) (hl : k ∉ li) (hs : lgs s k s')
    (hF' : ∀ y f, y < 24 → f < 3 → F' (3 * y + f) = if y = k then -1 else fz k (w.2 1 (3 * y + f))) (hH' : ∀ j, j < 4 → H' j = fz k (w.2 3 j)) :
    SimB (sR (sR (sG (sG (sR (sR w 13 (w.1 13 &&& (bI (nI k) ^^^ (-1)))) 14 (w.1 14 &&& (bI (nI k) ^^^ (-1)))) 1 F') 3 H') 21 (w.1 21 ||| bI (nI k))) 22 (w.1 22 + 1)) s' B [] rw li := by
  obtain ⟨hA, hP, hF, hW, hCo, hE, hRw, hG, hLi, hO, hR, hH, hN, hI⟩ := h
  obtain ⟨a1, a2, a3, a4, a5, a6, a7, a8⟩ := hA
  obtain ⟨s1, s2, s3, s4, s5, s6, s7, s8⟩ := hs
  have p' : ∀ j, tb (w.1 13 &&& (bI (nI k) ^^^ (-1))) j = true ↔ tb (w.1 13) j = true ∧ j ≠ k := tb_sub hk
  have sub : ∀ j, tb (w.1 13 &&& (bI (nI k) ^^^ (-1))) j = true → tb (w.1 13) j = true := fun j q => ((p' j).mp q).1
  refine ⟨⟨S24_and a1, S24_and a2, a3, a4, fun j q => ?_, fun j q => ?_, fun j q => ?_, a8⟩, fun j hj => ?_, fun y f hy hf => ⟨?_, fun q => ?_, fun q => ?_⟩, fun j hj hp => ?_, fun j hj hp => ?_, fun j hj hp => ?_, gL_s (fun j hj => s5 _ (by omega) (by omega)) hRw, hG, gL_s (fun j hj => s5 _ (by omega) (by omega)) hLi, ⟨hO.1, fun x hx => (p' x).mpr ⟨hO.2 x hx, fun e => hl (e ▸ hx)⟩⟩, fun j hj => ⟨?_, ?_⟩, fun j hj => ⟨?_, ?_⟩, ?_, hI⟩
  · have := (tb_sub hk j).mp q
    exact (p' j).mpr ⟨a5 j this.1, this.2⟩
  · exact (p' j).mpr ⟨a6 j q, fun e => hw (Or.inl (e ▸ q))⟩
  · exact (p' j).mpr ⟨a7 j q, fun e => hw (Or.inr (e ▸ q))⟩
  · show s' (7 * j) = if tb (w.1 13 &&& (bI (nI k) ^^^ (-1))) j then 1 else 0
    rw [s1 j hj]
    by_cases e : j = k
    · subst e
      cases z : tb (w.1 13 &&& (bI (nI j) ^^^ (-1))) j
      · rw [if_pos rfl]; rfl
      · exact absurd rfl ((p' j).mp z).2
    · rw [if_neg e, hP j hj, bool_eq_iff ((p' j).trans ⟨fun q => q.1, fun q => ⟨q, e⟩⟩)]
  · show okr (w.1 13 &&& (bI (nI k) ^^^ (-1))) (F' (3 * y + f))
    rw [hF' y f hy hf]
    split
    · exact Or.inl rfl
    · exact okr_fz hk p' (hF y f hy hf).1
  · show s' (7 * y + (1 + f)) = F' (3 * y + f)
    have q2 := (p' y).mp q
    rw [s2 y f hy hf, hF' y f hy hf, if_neg q2.2, (hF y f hy hf).2.1 q2.1]
  · show F' (3 * y + f) = -1
    rw [hF' y f hy hf]
    by_cases e : y = k
    · rw [if_pos e]
    · rw [if_neg e, (hF y f hy hf).2.2 ?_, fz_m1]
      cases z : tb (w.1 13) y
      · rfl
      · exact Bool.noConfusion (((p' y).mpr ⟨z, e⟩).symm.trans q)
  · show s' (7 * j + 4) = if tb (w.1 14 &&& (bI (nI k) ^^^ (-1))) j then 1 else 0
    have hp2 := (p' j).mp hp
    rw [s3 j 4 hj (by omega) (by omega), hW j hj hp2.1, bool_eq_iff ((tb_sub hk j).trans ⟨fun q => q.1, fun q => ⟨q, hp2.2⟩⟩)]
  · exact (s3 j 5 hj (by omega) (by omega)).trans (hCo j hj (sub j hp))
  · exact (s3 j 6 hj (by omega) (by omega)).trans (hE j hj (sub j hp))
  · show okr (w.1 13 &&& (bI (nI k) ^^^ (-1))) (w.2 2 j)
    have := okr_fz hk p' (hR j hj).1
    rw [fz_ne (fun e => hR0 ⟨j, hj, e⟩)] at this
    exact this
  · show s' (218 + j) = w.2 2 j
    rw [s4 j (by omega), (hR j hj).2, fz_ne (fun e => hR0 ⟨j, hj, e⟩)]
  · show okr (w.1 13 &&& (bI (nI k) ^^^ (-1))) (H' j)
    rw [hH' j hj]
    exact okr_fz hk p' (hH j hj).1
  · show s' (222 + j) = H' j
    have h4 := s4 (4 + j) (by omega)
    rw [show 218 + (4 + j) = 222 + j by omega, (hH j hj).2] at h4
    rw [h4, hH' j hj]
  · obtain ⟨n1, n2, n3, n4, n5, n6, n7, n8, n9⟩ := hN
    refine ⟨(s6 226 (by omega) (by omega) (by omega)).trans n1, (s6 227 (by omega) (by omega) (by omega)).trans n2, (s6 228 (by omega) (by omega) (by omega)).trans n3, (s6 229 (by omega) (by omega) (by omega)).trans n4, ?_, (s6 231 (by omega) (by omega) (by omega)).trans n6, (s6 232 (by omega) (by omega) (by omega)).trans n7, ?_, (s6 234 (by omega) (by omega) (by omega)).trans n9⟩
    · rw [s7, n5]; rfl
    · rw [s8, n8]; rfl
