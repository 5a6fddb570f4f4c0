/-! PURE: make -/
theorem free_loop {p : Int32} {m : St} (hP : gP p (m.2 0)) : ∀ (n k : Nat), k ≤ 24 → 24 - k < n → ∃ r, f_X7_lowestFree_L2 n (nI k) m = some (r, m) ∧ ((∃ j, k ≤ j ∧ j < 24 ∧ tb p j = false ∧ (∀ i, k ≤ i → i < j → tb p i = true) ∧ r = nI j) ∨ (r = -14 ∧ ∀ i, k ≤ i → i < 24 → tb p i = true)) := by
  intro n
  induction n with
  | zero => intro f _ h; omega
  | succ n ih =>
    intro f hf hn
    by_cases h : f < 24
    · cases z : tb p f
      · refine ⟨nI f, ?_, Or.inl ⟨f, Nat.le_refl f, h, z, fun j _ _ => by omega, rfl⟩⟩
        rw [f_X7_lowestFree_L2]
        have h0 : m.2 0 (7 * f) = 0 := by rw [hP f h, z]; rfl
        simp (disch := omega) only [ltL, h, if_true, e_of0 h, Option.bind_some, h0]
      · obtain ⟨r, e, hr⟩ := ih (f + 1) (by omega) (by omega)
        refine ⟨r, ?_, ?_⟩
        · rw [f_X7_lowestFree_L2]
          have h0 : ¬ m.2 0 (7 * f) = 0 := by rw [hP f h, z]; decide
          simp (disch := omega) only [ltL, h, if_true, e_of0 h, Option.bind_some, h0, if_false, addR]
          exact e
        · rcases hr with ⟨k, a, b, c, d, e⟩ | ⟨a, b⟩
          · refine Or.inl ⟨k, by omega, b, c, fun j h1 h2 => ?_, e⟩
            by_cases q : j = f
            · rw [q]; exact z
            · exact d j (by omega) h2
          · refine Or.inr ⟨a, fun j h1 h2 => ?_⟩
            by_cases q : j = f
            · rw [q]; exact z
            · exact b j (by omega) h2
    · have h3 : f = 24 := by omega
      subst h3
      refine ⟨-14, ?_, Or.inr ⟨rfl, fun j _ _ => by omega⟩⟩
      rw [f_X7_lowestFree_L2]
      simp (disch := omega) only [ltL, if_false, Nat.lt_irrefl]
theorem mk35 {k : Nat} (hk : k < 24) (x : Int32) : ∀ (n f : Nat) (m : St), f ≤ 3 → 3 - f < n → ∃ s', f_X7_make_L35 n x (nI k) (nI f) m = some (sG m 0 s') ∧ (∀ g, f ≤ g → g < 3 → s' (7 * k + (1 + g)) = -1) ∧ ∀ i, (∀ g, f ≤ g → g < 3 → i ≠ 7 * k + (1 + g)) → s' i = m.2 0 i := by
  intro n
  induction n with
  | zero => intro f m _ h; omega
  | succ n ih =>
    intro f m hf hn
    by_cases h : f < 3
    · obtain ⟨s', e, h1, h2⟩ := ih (f + 1) (sG m 0 (upd (m.2 0) (7 * k + (1 + f)) (-1))) (by omega) (by omega)
      rw [sG_sG] at e
      rw [sG_2] at h2
      have hse : f_X7_sets (nI k) (nI (1 + f)) (-1) m = some (0, sG m 0 (upd (m.2 0) (7 * k + (1 + f)) (-1))) := e_sets (by omega) _
      refine ⟨s', ?_, fun g a b => ?_, fun i hi => ?_⟩
      · rw [f_X7_make_L35]
        simp (disch := omega) only [ltL, h, if_true, addL, hse, Option.bind_some, addR]
        exact e
      · by_cases e : g = f
        · subst e
          rw [h2 _ (fun g' a b => by omega), upd_eq]
        · exact h1 g (by omega) b
      · rw [h2 i (fun g a b => hi g (by omega) b), upd_ne (hi f (Nat.le_refl f) h)]
    · have h3 : f = 3 := by omega
      subst h3
      refine ⟨m.2 0, ?_, fun g a b => by omega, fun _ _ => rfl⟩
      rw [f_X7_make_L35, sG_self]
      simp (disch := omega) only [ltL, if_false, Nat.lt_irrefl]
def nwS (s : Nat → Int32) (k : Nat) (c : Int32) (s1 : Nat → Int32) : Prop := s1 (7 * k) = 1 ∧ (∀ f, f < 3 → s1 (7 * k + (1 + f)) = -1) ∧ s1 (7 * k + 4) = 0 ∧ s1 (7 * k + 5) = c ∧ s1 (7 * k + 6) = 0 ∧ s1 229 = s 229 + 1 ∧ ∀ i, (i < 7 * k ∨ 7 * k + 7 ≤ i) → i ≠ 229 → s1 i = s i
theorem sR_self (w : St) (r : Nat) : sR w r (w.1 r) = w := by
  unfold sR
  refine Prod.ext ?_ rfl
  funext j
  show (if j = r then w.1 r else w.1 j) = w.1 j
  by_cases e : j = r
  · rw [if_pos e, e]
  · rw [if_neg e]
theorem new_sim {w : St} {s s1 : Nat → Int32} {B : Nat} {rw li : List Nat} {k : Nat} {b' c : Int32} (h : SimB w s B [] rw li) (hk : k < 24) (hn : tb (w.1 13) k = false) (hs : nwS s k c s1) (hb : (b' = w.1 17 ∧ c = 0) ∨ (b' = w.1 17 ||| bI (nI k) ∧ c = 2)) :
    SimB (sR (sG (sR (sR w 13 (w.1 13 ||| bI (nI k))) 11 (w.1 11 + 1)) 6 (upd (w.2 6) k (w.1 19))) 17 b') s1 B [] rw li := by
  obtain ⟨hA, hP, hF, hW, hCo, hE, hRw, hG, hLi, hO, hR, hH, hN, hI⟩ := h
  obtain ⟨a1, a2, a3, a4, a5, a6, a7, a8⟩ := hA
  obtain ⟨s1a, s2, s3, s4, s5, s6, s7⟩ := hs
  have p' : ∀ j, tb (w.1 13 ||| bI (nI k)) j = true ↔ tb (w.1 13) j = true ∨ j = k := tb_add hk
  have hgk : tb (w.1 16) k = false := by
    cases z : tb (w.1 16) k
    · rfl
    · rw [a6 k z] at hn; cases hn
  have hbk : tb (w.1 17) k = false := by
    cases z : tb (w.1 17) k
    · rfl
    · rw [a7 k z] at hn; cases hn
  have hwk : tb (w.1 14) k = false := by
    cases z : tb (w.1 14) k
    · rfl
    · rw [a5 k z] at hn; cases hn
  have b24 : S24 b' := by
    rcases hb with ⟨rfl, _⟩ | ⟨rfl, _⟩
    · exact a4
    · exact S24_or a4 (S24_bI _)
  have bs : ∀ j, tb b' j = true → tb (w.1 17) j = true ∨ j = k := by
    intro j q
    rcases hb with ⟨rfl, _⟩ | ⟨rfl, _⟩
    · exact Or.inl q
    · exact (tb_add hk j).mp q
  have bne : ∀ j, j ≠ k → tb b' j = tb (w.1 17) j := by
    intro j hj
    rcases hb with ⟨rfl, _⟩ | ⟨rfl, _⟩
    · rfl
    · exact bool_eq_iff ((tb_add hk j).trans ⟨fun q => q.elim id (fun z => absurd z hj), Or.inl⟩)
  have okm : ∀ v, okr (w.1 13) v → okr (w.1 13 ||| bI (nI k)) v := by
    intro v hv
    rcases hv with q | ⟨j, x1, x2, x3⟩
    · exact Or.inl q
    · exact Or.inr ⟨j, x1, x2, (p' j).mpr (Or.inl x3)⟩
  have pne : ∀ j, j ≠ k → tb (w.1 13 ||| bI (nI k)) j = tb (w.1 13) j := fun j hj => bool_eq_iff ((p' j).trans ⟨fun q => q.elim id (fun z => absurd z hj), Or.inl⟩)
  have oth : ∀ j i, j < 24 → j ≠ k → i < 7 → s1 (7 * j + i) = s (7 * j + i) := fun j i _ _ _ => s7 _ (by omega) (by omega)
  refine ⟨⟨S24_or a1 (S24_bI _), a2, a3, b24, fun j q => (p' j).mpr (Or.inl (a5 j q)), fun j q => (p' j).mpr (Or.inl (a6 j q)), fun j q => (p' j).mpr ((bs j q).elim (fun q => Or.inl (a7 j q)) Or.inr), fun j q => ?_⟩, fun j hj => ?_, fun y f hy hf => ⟨okm _ (hF y f hy hf).1, fun q => ?_, fun q => ?_⟩, fun j hj hp => ?_, fun j hj hp => ?_, fun j hj hp => ?_, gL_s (fun j hj => s7 _ (by omega) (by omega)) hRw, hG, gL_s (fun j hj => s7 _ (by omega) (by omega)) hLi, ⟨hO.1, fun x hx => (p' x).mpr (Or.inl (hO.2 x hx))⟩, fun j hj => ⟨okm _ (hR j hj).1, (s7 _ (by omega) (by omega)).trans (hR j hj).2⟩, fun j hj => ⟨okm _ (hH j hj).1, (s7 _ (by omega) (by omega)).trans (hH j hj).2⟩, ?_, hI⟩
  · show tb b' j = false
    by_cases e : j = k
    · subst e; exact Bool.noConfusion (hgk.symm.trans q)
    · rw [bne j e]; exact a8 j q
  · show s1 (7 * j) = if tb (w.1 13 ||| bI (nI k)) j then 1 else 0
    by_cases e : j = k
    · subst e
      rw [s1a, (p' j).mpr (Or.inr rfl), if_pos rfl]
    · rw [pne j e, ← hP j hj]
      exact oth j 0 hj e (by omega)
  · show s1 (7 * y + (1 + f)) = w.2 1 (3 * y + f)
    by_cases e : y = k
    · subst e
      rw [s2 f hf, (hF y f hy hf).2.2 hn]
    · rw [oth y (1 + f) hy e (by omega)]
      exact (hF y f hy hf).2.1 (((p' y).mp q).elim id (fun z => absurd z e))
  · refine (hF y f hy hf).2.2 ?_
    cases z : tb (w.1 13) y
    · rfl
    · exact Bool.noConfusion (((p' y).mpr (Or.inl z)).symm.trans q)
  · show s1 (7 * j + 4) = if tb (w.1 14) j then 1 else 0
    by_cases e : j = k
    · subst e
      rw [s3, hwk]; rfl
    · rw [oth j 4 hj e (by omega)]
      exact hW j hj (((p' j).mp hp).elim id (fun z => absurd z e))
  · show s1 (7 * j + 5) = if tb b' j then 2 else if tb (w.1 16) j then 1 else 0
    by_cases e : j = k
    · subst e
      rw [s4]
      rcases hb with ⟨rfl, rfl⟩ | ⟨rfl, rfl⟩
      · rw [hbk, hgk]; rfl
      · rw [(tb_add hk j).mpr (Or.inr rfl)]; rfl
    · rw [oth j 5 hj e (by omega), bne j e]
      exact hCo j hj (((p' j).mp hp).elim id (fun z => absurd z e))
  · show s1 (7 * j + 6) = w.1 19 - upd (w.2 6) k (w.1 19) j
    by_cases e : j = k
    · subst e
      rw [s5, upd_eq, Int32.sub_self]
    · rw [oth j 6 hj e (by omega), upd_ne e]
      exact hE j hj (((p' j).mp hp).elim id (fun z => absurd z e))
  · obtain ⟨n1, n2, n3, n4, n5, n6, n7, n8, n9⟩ := hN
    refine ⟨(s7 226 (by omega) (by omega)).trans n1, (s7 227 (by omega) (by omega)).trans n2, (s7 228 (by omega) (by omega)).trans n3, ?_, (s7 230 (by omega) (by omega)).trans n5, (s7 231 (by omega) (by omega)).trans n6, (s7 232 (by omega) (by omega)).trans n7, (s7 233 (by omega) (by omega)).trans n8, (s7 234 (by omega) (by omega)).trans n9⟩
    rw [s6, n4]; rfl
theorem e_colourNew {k : Nat} (hk : k < 24) (w : St) {fr : Nat} (hfr : fr ≤ 24) (h18 : w.1 18 = nI fr) : ∃ b' c, f_X4_colourNewOne (nI k) w = some (0, sR w 17 b') ∧ ((b' = w.1 17 ∧ c = 0) ∨ (b' = w.1 17 ||| bI (nI k) ∧ c = 2)) ∧ (w.1 15 = 1 ∨ w.1 15 = 2 → b' = w.1 17 ||| bI (nI k) ∧ c = 2) ∧ (w.1 15 = 3 → (k < fr ∧ b' = w.1 17 ∧ c = 0) ∨ (fr ≤ k ∧ b' = w.1 17 ||| bI (nI k) ∧ c = (2 : Int32))) ∧ (w.1 15 = 0 → b' = w.1 17 ∧ c = 0) := by
  unfold f_X4_colourNewOne
  rw [e_needs]
  simp only [Option.bind_some]
  by_cases hz : ndI (w.1 15) = 0
  · rw [if_pos hz]
    have hnp := ndI_0.mp hz
    by_cases h3 : w.1 15 = 3
    · rw [if_pos h3, h18]
      by_cases hlt : k < fr
      · rw [if_pos ((nI_ltI (by omega) (by omega)).mpr hlt)]
        exact ⟨w.1 17, 0, by rw [sR_self], Or.inl ⟨rfl, rfl⟩, fun q => absurd q hnp, fun _ => Or.inl ⟨hlt, rfl, rfl⟩, fun _ => ⟨rfl, rfl⟩⟩
      · rw [if_neg (fun q => hlt ((nI_ltI (by omega) (by omega)).mp q)), e_bit]
        exact ⟨w.1 17 ||| bI (nI k), 2, rfl, Or.inr ⟨rfl, rfl⟩, fun q => absurd q hnp, fun _ => Or.inr ⟨by omega, rfl, rfl⟩, fun q => absurd (h3.symm.trans q) (by decide)⟩
    · rw [if_neg h3]
      exact ⟨w.1 17, 0, by rw [sR_self], Or.inl ⟨rfl, rfl⟩, fun q => absurd q hnp, fun q => absurd q h3, fun _ => ⟨rfl, rfl⟩⟩
  · rw [if_neg hz, e_bit]
    have hp : w.1 15 = 1 ∨ w.1 15 = 2 := by
      by_cases q : w.1 15 = 1 ∨ w.1 15 = 2
      · exact q
      · exact absurd (ndI_0.mpr q) hz
    exact ⟨w.1 17 ||| bI (nI k), 2, rfl, Or.inr ⟨rfl, rfl⟩, fun _ => ⟨rfl, rfl⟩, fun q => by rw [q] at hp; exact absurd hp (by decide), fun q => by rw [q] at hp; exact absurd hp (by decide)⟩
theorem new_edge {w : St} {s : Nat → Int32} {B : Nat} {ex rw li : List Nat} {k : Nat} (h : SimB w s B ex rw li) (hk : k < 24) (hn : tb (w.1 13) k = false) : (∀ y, y < 24 → ¬ edge (w.2 1) y k) ∧ ∀ x, x < 24 → ¬ edge (w.2 1) k x := by
  have hF := h.2.2.1
  refine ⟨fun y hy e => ?_, fun x hx e => ?_⟩
  · obtain ⟨f, hf, e⟩ := e
    rcases (hF y f hy hf).1 with q | ⟨j, hj, q, hp⟩
    · rw [q] at e; exact nI_ne_m1 (by omega) e.symm
    · rw [q] at e
      rw [nI_inj (by omega) (by omega) e, hn] at hp
      cases hp
  · obtain ⟨f, hf, e⟩ := e
    rw [(hF k f hk hf).2.2 hn] at e
    exact nI_ne_m1 (by omega) e.symm
theorem new_col {w : St} {s : Nat → Int32} {B k fr : Nat} {rw li : List Nat} {b' c : Int32} (h : SimL w s B rw li) (hk : k < 24) (hn : tb (w.1 13) k = false) (hfr : fr ≤ 24) (h18 : w.1 18 = nI fr)
    (hb : (b' = w.1 17 ∧ c = 0) ∨ (b' = w.1 17 ||| bI (nI k) ∧ c = (2 : Int32))) (hm : w.1 15 = 1 ∨ w.1 15 = 2 → b' = w.1 17 ||| bI (nI k) ∧ c = 2) (h3 : w.1 15 = 3 → (k < fr ∧ b' = w.1 17 ∧ c = 0) ∨ (fr ≤ k ∧ b' = w.1 17 ||| bI (nI k) ∧ c = (2 : Int32))) (h0 : w.1 15 = 0 → b' = w.1 17 ∧ c = 0) :
    gCol (w.1 15) (w.1 16) b' (w.1 10) (w.1 13 ||| bI (nI k)) (w.1 18) (w.2 1) (w.2 2) (w.2 3) li ∧ (w.1 15 = 1 ∨ w.1 15 = 2 → nw (w.1 16) b' k) ∧ (w.1 15 = 3 → ∀ f, f ≤ 24 → w.1 18 = nI f → kept b' f k) := by
  obtain ⟨ein, eout⟩ := new_edge h.1 hk hn
  have hK : w.1 15 = 3 → gK3 (w.1 13 ||| bI (nI k)) (w.1 16) b' fr (w.2 1) (w.2 2) (w.2 3) li ∧ kept b' fr k := by
    intro q
    obtain ⟨k0, k1, k2, k3, k4, k5⟩ := h.2.2.2 q fr hfr h18
    have kk : ∀ j, kept (w.1 17) fr j → kept b' fr j := by
      intro j z
      rcases z with z | z
      · exact Or.inl z
      · rcases hb with ⟨e, _⟩ | ⟨e, _⟩
        · rw [e]; exact Or.inr z
        · rw [e]; exact Or.inr ((tb_add hk j).mpr (Or.inl z))
    refine ⟨⟨k0, fun j z => ?_, fun j hj => kk j (k2 j hj), fun j hj z => kk j (k3 j hj z), fun j hj z => kk j (k4 j hj z), fun y j hy hj hp hkp he => kk j ?_⟩, ?_⟩
    · rcases h3 q with ⟨z1, z2, _⟩ | ⟨z1, z2, _⟩
      · rw [z2] at z; exact k1 j z
      · rw [z2] at z
        rcases (tb_add hk j).mp z with z | z
        · exact k1 j z
        · rw [z]; exact z1
    · by_cases e : y = k
      · rw [e] at he; exact absurd he (eout j hj)
      · refine k5 y j hy hj (((tb_add hk y).mp hp).elim id (fun z => absurd z e)) ?_ he
        rcases hkp with z | z
        · exact Or.inl z
        · rcases hb with ⟨e2, _⟩ | ⟨e2, _⟩
          · rw [e2] at z; exact Or.inr z
          · rw [e2] at z; exact Or.inr (((tb_add hk y).mp z).elim id (fun z => absurd z e))
    · rcases h3 q with ⟨z1, _⟩ | ⟨_, z2, _⟩
      · exact Or.inl z1
      · rw [z2]; exact Or.inr ((tb_add hk k).mpr (Or.inr rfl))
  have fe : ∀ f, f ≤ 24 → w.1 18 = nI f → f = fr := fun f hf e => nI_inj (by omega) (by omega) (e.symm.trans h18)
  refine ⟨⟨fun q => ?_, fun q => ?_, fun q f hf e => ?_⟩, fun q => ?_, fun q f hf e => ?_⟩
  · rw [(h0 q).1]; exact h.2.1 q
  · rw [(hm q).1]
    exact gM_new (h.2.2.1 q) (tb_add hk) ein eout
  · rw [fe f hf e]; exact (hK q).1
  · rw [(hm q).1]; exact Or.inr ((tb_add hk k).mpr (Or.inr rfl))
  · rw [fe f hf e]; exact (hK q).2
theorem mk_tail {k : Nat} (hk : k < 24) (x c : Int32) (M : St) : ((f_X7_sets (nI k) 5 c M).bind fun o25 => (f_X7_sets (nI k) 6 0 o25.2).bind fun o27 => if ib 229 235 then if ib 229 235 then (f_X7_writesRoot x (nI k) (sA o27.2 0 229 ((o27.2.2 0 (229 : Int32).toNatClampNeg) + 1))).bind fun o31 => (if o31.1 < 24 then some (nI k, o31.2) else some (o31.1, o31.2)) else none else none) = (f_X7_writesRoot x (nI k) (sG M 0 (upd (upd (upd (M.2 0) (7 * k + 5) c) (7 * k + 6) 0) 229 (M.2 0 229 + 1)))).bind fun o31 => (if o31.1 < 24 then some (nI k, o31.2) else some (o31.1, o31.2)) := by
  have ib229 : ib 229 235 := by decide
  have c229 : (229 : Int32).toNatClampNeg = 229 := by decide
  rw [show f_X7_sets (nI k) 5 c M = some (0, sG M 0 (upd (M.2 0) (7 * k + 5) c)) from e_sets (j := 5) (by omega) c]
  simp only [Option.bind_some]
  rw [show f_X7_sets (nI k) 6 0 (sG M 0 (upd (M.2 0) (7 * k + 5) c)) = some (0, sG (sG M 0 (upd (M.2 0) (7 * k + 5) c)) 0 (upd ((sG M 0 (upd (M.2 0) (7 * k + 5) c)).2 0) (7 * k + 6) 0)) from e_sets (j := 6) (by omega) 0, sG_2, sG_sG]
  simp only [Option.bind_some]
  rw [if_pos ib229, if_pos ib229]
  unfold sA
  rw [c229, sG_2, sG_sG, upd_ne (show 229 ≠ 7 * k + 6 by omega), upd_ne (show 229 ≠ 7 * k + 5 by omega)]
theorem make_step {w m m' : St} {B : Nat} (h : Sim w (m.2 0) B) (hc : f_X7_changes m = some (0, m')) (h0 : m'.2 0 = m.2 0) (x : Int32) : ChS w m m' B (f_X5_create x w) (f_X7_make x m) := by
  obtain ⟨rw, li, hS⟩ := h
  have hP := hS.1.2.1
  obtain ⟨fr, hfr, h18⟩ := hS.1.2.2.2.2.2.2.2.2.2.2.2.2.2.2.2.1
  rcases isI_or x 4 (by omega) with ⟨i, hi, rfl, hin⟩ | hin
  · have hin' : isI (nI i) 4 = 1 := hin
    obtain ⟨r, e1, hL⟩ := e_low0 (w.1 13 ^^^ (-1)) w
    obtain ⟨r2, e2, hL2⟩ := free_loop hP BIG 0 (by omega) (by unfold BIG; omega)
    have e2' : f_X7_lowestFree m = some (r2, m) := e2
    have tn : ∀ j, j < 24 → tb (w.1 13 ^^^ (-1)) j = !tb (w.1 13) j := fun j hj => tb_not _ (by omega)
    rcases hL with ⟨k, _, hk, q3, q4, rfl⟩ | ⟨rfl, q1⟩
    · have hn : tb (w.1 13) k = false := by
        have := tn k hk
        rw [q3] at this
        cases z : tb (w.1 13) k
        · rfl
        · rw [z] at this; cases this
      have hr2 : r2 = nI k := by
        rcases hL2 with ⟨k', z1, z2, z3, z4, rfl⟩ | ⟨_, z⟩
        · rcases Nat.lt_trichotomy k' k with q | q | q
          · have := q4 k' z1 q
            rw [tn k' z2, z3] at this
            cases this
          · rw [q]
          · have := z4 k (Nat.zero_le k) q
            rw [hn] at this
            cases this
        · have := z k (Nat.zero_le k) hk
          rw [hn] at this
          cases this
      subst hr2
      have hn0 : ¬ nI k < 0 := nI_pos (by omega)
      have hk24 : isI (nI k) 24 = 1 := isI_in (by omega) hk
      have hibk : ib (nI k) 24 := (ibN (by omega)).mpr hk
      obtain ⟨b', c, ec, hb, hm, h3, h00⟩ := e_colourNew hk (sG (sR (sR w 13 (w.1 13 ||| bI (nI k))) 11 (w.1 11 + 1)) 6 (upd (w.2 6) k (w.1 19))) hfr h18
      have hb : (b' = w.1 17 ∧ c = 0) ∨ (b' = w.1 17 ||| bI (nI k) ∧ c = 2) := hb
      obtain ⟨sb, eb, b1, b2⟩ := mk35 hk (nI i) BIG 0 (sG m' 0 (upd (m.2 0) (7 * k) 1)) (by omega) (by unfold BIG; omega)
      rw [sG_sG] at eb
      rw [sG_2] at b2
      have hsd : nwS (m.2 0) k c (upd (upd (upd (upd sb (7 * k + 4) 0) (7 * k + 5) c) (7 * k + 6) 0) 229 (sb 229 + 1)) := by
        refine ⟨?_, fun f hf => ?_, ?_, ?_, ?_, ?_, fun j hj hj2 => ?_⟩
        · rw [upd_ne (by omega), upd_ne (by omega), upd_ne (by omega), upd_ne (by omega), b2 _ (fun g _ _ => by omega), upd_eq]
        · rw [upd_ne (by omega), upd_ne (by omega), upd_ne (by omega), upd_ne (by omega), b1 f (Nat.zero_le f) hf]
        · rw [upd_ne (by omega), upd_ne (by omega), upd_ne (by omega), upd_eq]
        · rw [upd_ne (by omega), upd_ne (by omega), upd_eq]
        · rw [upd_ne (by omega), upd_eq]
        · rw [upd_eq, b2 229 (fun g _ _ => by omega), upd_ne (by omega)]
        · rw [upd_ne hj2, upd_ne (by omega), upd_ne (by omega), upd_ne (by omega), b2 _ (fun g _ _ => by omega), upd_ne (by omega)]
      have hS1 := new_sim hS.1 hk hn hsd hb
      obtain ⟨hC1, hm1, h31⟩ := new_col hS hk hn hfr h18 hb hm h3 h00
      have hpk : tb (w.1 13 ||| bI (nI k)) k = true := (tb_add hk k).mpr (Or.inr rfl)
      have hS1' : SimB (sR (sG (sR (sR w 13 (w.1 13 ||| bI (nI k))) 11 (w.1 11 + 1)) 6 (upd (w.2 6) k (w.1 19))) 17 b') ((sG m' 0 (upd (upd (upd (upd sb (7 * k + 4) 0) (7 * k + 5) c) (7 * k + 6) 0) 229 (sb 229 + 1))).2 0) B [] rw li := by rw [sG_2]; exact hS1
      obtain ⟨w', s', rw', a1, a2, a3, a4, a5⟩ := refer_sim hS1' hi (to := nI k) (Or.inr ⟨k, hk, rfl, hpk⟩)
      rw [sG_sG] at a2
      have hb24 : w.2 2 i < 24 := by
        rcases (hS.1.2.2.2.2.2.2.2.2.2.2.1 i hi).1 with q | ⟨z, hz, q, _⟩
        · rw [q]; decide
        · rw [q]; exact (ltL (by omega) (by omega)).mpr (by omega)
      obtain ⟨c1, c2⟩ := root_done (w := sR (sG (sR (sR w 13 (w.1 13 ||| bI (nI k))) 11 (w.1 11 + 1)) 6 (upd (w.2 6) k (w.1 19))) 17 b') hC1 a3 a4 a5 (fun q _ k' hk' e => by rw [← nI_inj (by omega) (by omega) e]; exact Or.inl (hm1 q)) (fun q f hf e k' hk' e2 => by rw [← nI_inj (by omega) (by omega) e2]; exact h31 q f hf e)
      refine Or.inr ⟨nI k, w', s', ok_nI (by omega), ?_, ?_, Sim_mono (Nat.le_succ B) c1, fun r hr => ?_, c2.2.trans rfl⟩
      · unfold f_X5_create f_X1_bring
        simp only [e_isIn, hin', Option.bind_some, oz, if_false, e1, e_bit, hk24]
        rw [if_pos hibk]
        have e5 : f_X4_colourNewOne (nI k) (sA (sR (sR w 13 (w.1 13 ||| bI (nI k))) 11 ((sR w 13 (w.1 13 ||| bI (nI k))).1 11 + 1)) 6 (nI k) ((sR w 13 (w.1 13 ||| bI (nI k))).1 19)) = some (0, sR (sG (sR (sR w 13 (w.1 13 ||| bI (nI k))) 11 (w.1 11 + 1)) 6 (upd (w.2 6) k (w.1 19))) 17 b') := by
          rw [← ec]
          refine congrArg (f_X4_colourNewOne (nI k)) ?_
          unfold sA
          rw [clN (by omega)]
          rfl
        rw [e5]
        simp only [Option.bind_some]
        rw [a1]
        rfl
      · unfold f_X7_make
        simp only [e_isRoot, hin', Option.bind_some, oz, if_false, e2', hn0, hc]
        rw [show f_X7_sets (nI k) 0 1 m' = some (0, sG m' 0 (upd (m'.2 0) (7 * k) 1)) from e_sets (j := 0) (by omega) 1, h0]
        simp only [Option.bind_some]
        rw [show f_X7_make_L35 BIG (nI i) (nI k) 0 (sG m' 0 (upd (m.2 0) (7 * k) 1)) = some (sG m' 0 sb) from eb]
        simp only [Option.bind_some]
        rw [show f_X7_sets (nI k) 4 0 (sG m' 0 sb) = some (0, sG (sG m' 0 sb) 0 (upd ((sG m' 0 sb).2 0) (7 * k + 4) 0)) from e_sets (j := 4) (by omega) 0, sG_2, sG_sG]
        simp only [Option.bind_some]
        have g226 : (sG m' 0 (upd sb (7 * k + 4) 0)).2 0 226 = w.1 15 := by
          rw [sG_2, upd_ne (by omega), b2 _ (fun g _ _ => by omega), upd_ne (by omega)]
          exact hS.1.2.2.2.2.2.2.2.2.2.2.2.2.1.1
        have g226' : (sG m' 0 (upd sb (7 * k + 4) 0)).2 0 (226 : Int32).toNatClampNeg = w.1 15 := g226
        have g227 : (sG m' 0 (upd sb (7 * k + 4) 0)).2 0 (227 : Int32).toNatClampNeg = nI fr := by
          show (sG m' 0 (upd sb (7 * k + 4) 0)).2 0 227 = nI fr
          rw [sG_2, upd_ne (by omega), b2 _ (fun g _ _ => by omega), upd_ne (by omega), ← h18]
          exact hS.1.2.2.2.2.2.2.2.2.2.2.2.2.1.2.1
        have g229 : (sG m' 0 (upd sb (7 * k + 4) 0)).2 0 229 = sb 229 := by
          rw [sG_2, upd_ne (by omega)]
        have tail : ((f_X7_writesRoot (nI i) (nI k) (sG (sG m' 0 (upd sb (7 * k + 4) 0)) 0 (upd (upd (upd ((sG m' 0 (upd sb (7 * k + 4) 0)).2 0) (7 * k + 5) c) (7 * k + 6) 0) 229 ((sG m' 0 (upd sb (7 * k + 4) 0)).2 0 229 + 1)))).bind fun o31 => (if o31.1 < 24 then some (nI k, o31.2) else some (o31.1, o31.2))) = some (nI k, sG m' 0 s') := by
          rw [g229, sG_2, sG_sG, a2]
          simp only [Option.bind_some]
          rw [if_pos (show (sR (sG (sR (sR w 13 (w.1 13 ||| bI (nI k))) 11 (w.1 11 + 1)) 6 (upd (w.2 6) k (w.1 19))) 17 b').2 2 i < 24 from hb24)]
        rw [e_isMarking, g226]
        simp only [Option.bind_some]
        by_cases hz : ndI (w.1 15) = 0
        · have hnp := ndI_0.mp hz
          rw [if_pos hz, if_pos ib226, g226']
          by_cases hp3 : w.1 15 = 3
          · rw [if_pos hp3, if_pos ib227, g227]
            rcases h3 hp3 with ⟨z1, _, z3⟩ | ⟨z1, _, z3⟩
            · subst z3
              rw [if_pos ((nI_ltI (by omega) (by omega)).mpr z1), mk_tail hk]
              exact tail
            · subst z3
              rw [if_neg (fun q => by have := (nI_ltI (by omega) (by omega)).mp q; omega), mk_tail hk]
              exact tail
          · rw [if_neg hp3]
            have hp0 : w.1 15 = 0 := by
              rcases hS.1.2.2.2.2.2.2.2.2.2.2.2.2.2.1 with q | q | q | q
              · exact q
              · exact absurd (Or.inl q) hnp
              · exact absurd (Or.inr q) hnp
              · exact absurd q hp3
            have z3 := (h00 hp0).2
            subst z3
            rw [mk_tail hk]
            exact tail
        · rw [if_neg hz]
          have hp : w.1 15 = 1 ∨ w.1 15 = 2 := by
            by_cases q : w.1 15 = 1 ∨ w.1 15 = 2
            · exact q
            · exact absurd (ndI_0.mpr q) hz
          have z3 := (hm hp).2
          subst z3
          rw [mk_tail hk]
          exact tail
      · rw [c2.1 r hr]
        show (if r = 17 then _ else if r = 11 then _ else if r = 13 then _ else w.1 r) = w.1 r
        rw [if_neg (by omega), if_neg (by omega), if_neg (by omega)]
    · have hall : ∀ j, j < 24 → tb (w.1 13) j = true := by
        intro j hj
        have := q1 j (Nat.zero_le j) hj
        rw [tn j hj] at this
        cases z : tb (w.1 13) j
        · rw [z] at this; cases this
        · rfl
      have hr2 : r2 = -14 := by
        rcases hL2 with ⟨k', z1, z2, z3, z4, rfl⟩ | ⟨a, _⟩
        · rw [hall k' z2] at z3; cases z3
        · exact a
      subst hr2
      refine Or.inl ⟨-13, no_13, ?_, ?_⟩
      · unfold f_X5_create f_X1_bring
        simp only [e_isIn, hin', Option.bind_some, oz, if_false, e1, e_bit, bI_m1, or_0, sR_self]
        rw [if_pos (show isI (-1) 24 = 0 by decide)]
      · unfold f_X7_make
        simp only [e_isRoot, hin', Option.bind_some, oz, if_false, e2']
        rw [if_pos (by decide)]
  · have hin' : isI x 4 = 0 := hin
    refine Or.inl ⟨-11, no_11, ?_, ?_⟩
    · unfold f_X5_create
      simp only [e_isIn, hin', Option.bind_some, if_true]
    · unfold f_X7_make
      simp only [e_isRoot, hin', Option.bind_some, if_true]
