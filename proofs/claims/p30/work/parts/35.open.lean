/-! PURE: a search begins; steps in lockstep -/
theorem bg50 : ∀ (n k : Nat) (m : St), k ≤ 24 → 24 - k < n → ∃ s', f_X7_begins_L50 n (nI k) m = some (sG m 0 s') ∧ (∀ y, k ≤ y → y < 24 → s' (7 * y + 5) = 0 ∧ s' (7 * y + 6) = m.2 0 (7 * y + 6) + 1) ∧ ∀ i, (∀ y, k ≤ y → y < 24 → i ≠ 7 * y + 5 ∧ i ≠ 7 * y + 6) → s' i = m.2 0 i := by
  intro n
  induction n with
  | zero => intro k m _ h; omega
  | succ n ih =>
    intro k m hk hn
    by_cases h : k < 24
    · have hs1 : f_X7_sets (nI k) 5 0 m = some (0, sG m 0 (upd (m.2 0) (7 * k + 5) 0)) := e_sets (j := 5) (by omega) 0
      have hs2 : f_X7_sets (nI k) 6 (m.2 0 (7 * k + 6) + 1) (sG m 0 (upd (m.2 0) (7 * k + 5) 0)) = some (0, sG (sG m 0 (upd (m.2 0) (7 * k + 5) 0)) 0 (upd ((sG m 0 (upd (m.2 0) (7 * k + 5) 0)).2 0) (7 * k + 6) (m.2 0 (7 * k + 6) + 1))) := e_sets (j := 6) (by omega) _
      rw [sG_2, sG_sG] at hs2
      obtain ⟨s', e, h1, h2⟩ := ih (k + 1) (sG m 0 (upd (upd (m.2 0) (7 * k + 5) 0) (7 * k + 6) (m.2 0 (7 * k + 6) + 1))) (by omega) (by omega)
      rw [sG_sG] at e
      rw [sG_2] at h1 h2
      refine ⟨s', ?_, fun y a b => ?_, fun i hi => ?_⟩
      · rw [f_X7_begins_L50]
        have h6 : (sG m 0 (upd (m.2 0) (7 * k + 5) 0)).2 0 (7 * k + 6) = m.2 0 (7 * k + 6) := by rw [sG_2, upd_ne (by omega)]
        simp (disch := omega) only [ltL, h, if_true, hs1, Option.bind_some, e_of6 h, h6, hs2, addR]
        exact e
      · by_cases e : y = k
        · subst e
          rw [h2 _ (fun z a b => by omega), h2 _ (fun z a b => by omega), upd_eq, upd_ne (by omega), upd_eq]
          exact ⟨rfl, rfl⟩
        · obtain ⟨z1, z2⟩ := h1 y (by omega) b
          refine ⟨z1, z2.trans ?_⟩
          rw [upd_ne (by omega), upd_ne (by omega)]
      · rw [h2 i (fun y a b => hi y (by omega) b), upd_ne (hi k (Nat.le_refl k) h).2, upd_ne (hi k (Nat.le_refl k) h).1]
    · have h3 : k = 24 := by omega
      subst h3
      refine ⟨m.2 0, ?_, fun y a b => by omega, fun _ _ => rfl⟩
      rw [f_X7_begins_L50, sG_self]
      simp (disch := omega) only [ltL, if_false, Nat.lt_irrefl]
theorem op_roots {B : Nat} {li : List Nat} : ∀ (n j : Nat) (w m : St) (rw : List Nat), j ≤ 4 → 4 - j < n → SimB w (m.2 0) B [] rw li →
    ∃ w' s' rw', f_X4_open_L27 n (nI j) w = some w' ∧ f_X7_begins_L87 n (nI j) m = some (sG m 0 s') ∧ SimB w' s' B [] rw' li ∧ (∀ k, tb (w.1 16) k = true → tb (w'.1 16) k = true) ∧ (∀ i k, j ≤ i → i < 4 → k < 24 → w.2 2 i = nI k → nw (w'.1 16) (w'.1 17) k) ∧ sameX w w' := by
  intro n
  induction n with
  | zero => intro j w m rw _ h; omega
  | succ n ih =>
    intro j w m rw hj hn hS
    by_cases h : j < 4
    · have hR := hS.2.2.2.2.2.2.2.2.2.2.1 j h
      obtain ⟨w1, s1, rw1, e1, e2, a1, a2, a3⟩ := shade_sim hS hR.1
      obtain ⟨w2, s2, rw2, e3, e4, b1, b2, b3, b4⟩ := ih (j + 1) w1 (sG m 0 s1) rw1 (by omega) (by omega) (by rw [sG_2]; exact a1)
      rw [sG_sG] at e4
      refine ⟨w2, s2, rw2, ?_, ?_, b1, fun k q => b2 k ((a2 k).mpr (Or.inl q)), fun i k x1 x2 x3 x4 => ?_, a3.tr b4⟩
      · rw [f_X4_open_L27]
        simp (disch := omega) only [ltL, h, if_true, e_rootAt h, Option.bind_some, e1, addR]
        exact e3
      · rw [f_X7_begins_L87]
        have h235 : 218 + j < 235 := by omega
        simp (disch := omega) only [ltL, h, if_true, addL, ibN, clN, h235, hR.2, e2, Option.bind_some, addR]
        exact e4
      · by_cases e : i = j
        · subst e
          have := shade_nw (b := w.1 17) a2 x3 x4
          rcases this with q | q
          · exact Or.inl (b2 k q)
          · refine Or.inr ?_
            rw [b4.1 17 (by decide) (by decide), a3.1 17 (by decide) (by decide)]
            exact q
        · exact b3 i k (by omega) x2 x3 (by rw [a3.2 2 (by decide)]; exact x4)
    · have h4 : j = 4 := by omega
      subst h4
      refine ⟨w, m.2 0, rw, ?_, ?_, hS, fun _ q => q, fun i k a b => by omega, sameX.rf w⟩
      · rw [f_X4_open_L27]
        simp (disch := omega) only [ltL, if_false, Nat.lt_irrefl]
      · rw [f_X7_begins_L87, sG_self]
        simp (disch := omega) only [ltL, if_false, Nat.lt_irrefl]
theorem op_list {B : Nat} {li : List Nat} : ∀ (n j : Nat) (w m : St) (rw : List Nat), j ≤ li.length → li.length - j < n → SimB w (m.2 0) B [] rw li →
    ∃ w' s' rw', f_X4_open_L49 n (nI j) w = some w' ∧ f_X7_begins_L114 n (nI j) m = some (sG m 0 s') ∧ SimB w' s' B [] rw' li ∧ (∀ k, tb (w.1 16) k = true → tb (w'.1 16) k = true) ∧ (∀ i, j ≤ i → ∀ h : i < li.length, nw (w'.1 16) (w'.1 17) li[i]) ∧ sameX w w' := by
  intro n
  induction n with
  | zero => intro j w m rw _ h; omega
  | succ n ih =>
    intro j w m rw hj hn hS
    have h193 : ib 193 235 := by decide
    have c193 : (193 : Int32).toNatClampNeg = 193 := by decide
    obtain ⟨⟨l1, l2, l3⟩, l4, l5⟩ := hS.2.2.2.2.2.2.2.2.1
    have hO := hS.2.2.2.2.2.2.2.2.2.1
    have hm : m.2 0 193 = nI li.length := l4.trans l1
    by_cases h : j < li.length
    · have hv := l3 j h
      obtain ⟨w1, s1, rw1, e1, e2, a1, a2, a3⟩ := shade_sim hS (x := nI li[j]) (Or.inr ⟨_, hv.2, rfl, hO.2 _ (List.getElem_mem h)⟩)
      obtain ⟨w2, s2, rw2, e3, e4, b1, b2, b3, b4⟩ := ih (j + 1) w1 (sG m 0 s1) rw1 (by omega) (by omega) (by rw [sG_2]; exact a1)
      rw [sG_sG] at e4
      have hlt : nI j < nI li.length := (nI_ltI (by omega) (by omega)).mpr h
      refine ⟨w2, s2, rw2, ?_, ?_, b1, fun k q => b2 k ((a2 k).mpr (Or.inl q)), fun i x1 x2 => ?_, a3.tr b4⟩
      · rw [f_X4_open_L49, l1, if_pos hlt, e_at5 l2 l1 h, hv.1]
        simp only [Option.bind_some, e1, addR]
        exact e3
      · have h235 : 194 + j < 235 := by omega
        have h5 : m.2 0 (194 + j) = nI li[j] := (l5 j h).trans hv.1
        have hx : m.2 0 (193 : Int32).toNatClampNeg = nI li.length := by rw [c193]; exact hm
        rw [f_X7_begins_L114, if_pos h193, hx, if_pos hlt]
        simp (disch := omega) only [addL, ibN, clN, h235, if_true, h5, e2, Option.bind_some, addR]
        exact e4
      · by_cases e : i = j
        · subst e
          have := shade_nw (b := w.1 17) a2 hv.2 rfl
          rcases this with q | q
          · exact Or.inl (b2 _ q)
          · refine Or.inr ?_
            rw [b4.1 17 (by decide) (by decide), a3.1 17 (by decide) (by decide)]
            exact q
        · exact b3 i (by omega) x2
    · have h4 : j = li.length := by omega
      subst h4
      have hlt : ¬ nI li.length < nI li.length := fun q => by have := (nI_ltI (by omega) (by omega)).mp q; omega
      refine ⟨w, m.2 0, rw, ?_, ?_, hS, fun _ q => q, fun i a b => by omega, sameX.rf w⟩
      · rw [f_X4_open_L49, l1, if_neg hlt]
      · have hx : m.2 0 (193 : Int32).toNatClampNeg = nI li.length := by rw [c193]; exact hm
        rw [f_X7_begins_L114, if_pos h193, hx, if_neg hlt, sG_self]
theorem sub_add1 (a b : Int32) : a - b + 1 = a + 1 - b := by
  rw [Int32.sub_eq_add_neg, Int32.sub_eq_add_neg, Int32.add_assoc, Int32.add_comm (-b) 1, ← Int32.add_assoc]
theorem open_sim {w m : St} {B : Nat} {rw li : List Nat} (h : SimL w (m.2 0) B rw li) (h0 : w.1 15 = 0) :
    ∃ w' s' rw', f_X4_open w = some (0, w') ∧ f_X7_begins m = some (0, sG m 0 s') ∧ SimL w' s' (B + 1) rw' li ∧ w'.1 15 = 1 ∧ w'.1 22 = w.1 22 ∧ sf w w' := by
  obtain ⟨hS, hC⟩ := h
  obtain ⟨hg, hb⟩ := hC.1 h0
  have ib228 : ib 228 235 := by decide
  have ib232 : ib 232 235 := by decide
  have ib233 : ib 233 235 := by decide
  have c228 : (228 : Int32).toNatClampNeg = 228 := by decide
  have c232 : (232 : Int32).toNatClampNeg = 232 := by decide
  have c233 : (233 : Int32).toNatClampNeg = 233 := by decide
  have hrw : rw = [] := by
    cases rw with
    | nil => rfl
    | cons k t =>
      have := (hS.2.2.2.2.2.2.2.1.2 k).mp (by simp)
      rw [hg, tb_0] at this
      cases this
  subst hrw
  obtain ⟨hA, hP, hF, hW, hCo, hE, hRw, hG, hLi, hO, hR, hH, hN, hI⟩ := hS
  obtain ⟨n1, n2, n3, n4, n5, n6, n7, n8, n9⟩ := hN
  obtain ⟨s1, e1, a1, a2⟩ := bg50 BIG 0 (sG m 0 (upd (upd (upd (upd (upd (m.2 0) 226 1) 228 (m.2 0 228 + 1)) 232 0) 233 0) 168 0)) (by omega) (by unfold BIG; omega)
  rw [sG_sG] at e1
  rw [sG_2] at a1 a2
  have hS1 : SimB (sR (sR (sR (sR w 15 1) 19 (w.1 19 + 1)) 20 0) 21 0) s1 (B + 1) [] [] li := by
    have fr : ∀ i, (∀ y, y < 24 → i ≠ 7 * y + 5 ∧ i ≠ 7 * y + 6) → i ≠ 226 → i ≠ 228 → i ≠ 232 → i ≠ 233 → i ≠ 168 → s1 i = m.2 0 i := by
      intro i hi x1 x2 x3 x4 x5
      rw [a2 i (fun y _ b => hi y b), upd_ne x5, upd_ne x4, upd_ne x3, upd_ne x2, upd_ne x1]
    refine ⟨hA, gP_s (fun j hj => fr _ (by omega) (by omega) (by omega) (by omega) (by omega) (by omega)) hP, gF_s (fun j f hj hf => fr _ (by omega) (by omega) (by omega) (by omega) (by omega) (by omega)) hF, gW_s (fun j hj => fr _ (by omega) (by omega) (by omega) (by omega) (by omega) (by omega)) hW, fun j hj hp => ?_, fun j hj hp => ?_, ⟨⟨hRw.1.1, hRw.1.2.1, hRw.1.2.2⟩, ?_, fun j hj => absurd hj (Nat.not_lt_zero j)⟩, hG, gL_s (fun j hj => fr _ (by omega) (by omega) (by omega) (by omega) (by omega) (by omega)) hLi, hO, gR_s (fun j hj => fr _ (by omega) (by omega) (by omega) (by omega) (by omega) (by omega)) hR, gR_s (fun j hj => fr _ (by omega) (by omega) (by omega) (by omega) (by omega) (by omega)) hH, ⟨?_, ?_, ?_, ?_, ?_, ?_, ?_, ?_, ?_⟩, Or.inr (Or.inl rfl), hI.2.1, hI.2.2.1, ?_⟩
    · rw [(a1 j (Nat.zero_le j) hj).1]
      show (0 : Int32) = if tb (w.1 17) j then 2 else if tb (w.1 16) j then 1 else 0
      rw [hg, hb, tb_0]
      rfl
    · rw [(a1 j (Nat.zero_le j) hj).2, upd_ne (by omega), upd_ne (by omega), upd_ne (by omega), upd_ne (by omega), upd_ne (by omega), hE j hj hp]
      exact sub_add1 _ _
    · rw [a2 168 (fun y _ b => by omega), upd_eq]
      exact hRw.1.1.symm
    · rw [a2 226 (fun y _ b => by omega), upd_ne (by omega), upd_ne (by omega), upd_ne (by omega), upd_ne (by omega), upd_eq]; rfl
    · rw [fr 227 (by omega) (by omega) (by omega) (by omega) (by omega) (by omega)]; exact n2
    · rw [a2 228 (fun y _ b => by omega), upd_ne (by omega), upd_ne (by omega), upd_ne (by omega), upd_eq, n3]; rfl
    · rw [fr 229 (by omega) (by omega) (by omega) (by omega) (by omega) (by omega)]; exact n4
    · rw [fr 230 (by omega) (by omega) (by omega) (by omega) (by omega) (by omega)]; exact n5
    · rw [fr 231 (by omega) (by omega) (by omega) (by omega) (by omega) (by omega)]; exact n6
    · rw [a2 232 (fun y _ b => by omega), upd_ne (by omega), upd_ne (by omega), upd_eq]; rfl
    · rw [a2 233 (fun y _ b => by omega), upd_ne (by omega), upd_eq]; rfl
    · rw [fr 234 (by omega) (by omega) (by omega) (by omega) (by omega) (by omega)]; exact n9
    · obtain ⟨n, q1, q2⟩ := hI.2.2.2
      refine ⟨n + 1, by omega, ?_⟩
      show w.1 19 + 1 = nI (n + 1)
      rw [q2, nI_eq_of]
  obtain ⟨w2, s2, rw2, e2, e3, b1, b2, b3, b4⟩ := op_roots BIG 0 _ (sG m 0 s1) [] (by omega) (by unfold BIG; omega) (by rw [sG_2]; exact hS1)
  rw [sG_sG] at e3
  obtain ⟨w3, s3, rw3, e4, e5, c1, c2, c3, c4⟩ := op_list (li := li) BIG 0 w2 (sG m 0 s2) rw2 (by omega) (by have := hLi.1.2.1; unfold BIG; omega) (by rw [sG_2]; exact b1)
  rw [sG_sG] at e5
  have hX := b4.tr c4
  refine ⟨w3, s3, rw3, ?_, ?_, ⟨c1, ?_⟩, (hX.1 15 (by decide) (by decide)).trans rfl, (hX.1 22 (by decide) (by decide)).trans rfl, fun r hr => (hX.1 r (by omega) (by omega)).trans ?_, (hX.2 0 (by decide)).trans rfl⟩
  · unfold f_X4_open
    rw [show f_X4_open_L27 BIG 0 (sR (sR (sR (sR w 15 1) 19 (w.1 19 + 1)) 20 0) 21 0) = some w2 from e2]
    simp only [Option.bind_some]
    rw [show f_X4_open_L49 BIG 0 w2 = some w3 from e4]
    rfl
  · unfold f_X7_begins
    rw [if_pos ib226, if_pos ib228, if_pos ib228, if_pos ib232, if_pos ib233, if_pos ib168]
    simp only [sA, c226, c228, c232, c233, c168, sG_2, sG_sG]
    rw [upd_ne (show 228 ≠ 226 by decide)]
    rw [show f_X7_begins_L50 BIG 0 (sG m 0 (upd (upd (upd (upd (upd (m.2 0) 226 1) 228 (m.2 0 228 + 1)) 232 0) 233 0) 168 0)) = some (sG m 0 s1) from e1]
    simp only [Option.bind_some]
    rw [show f_X7_begins_L87 BIG 0 (sG m 0 s1) = some (sG m 0 s2) from e3]
    simp only [Option.bind_some]
    rw [show f_X7_begins_L114 BIG 0 (sG m 0 s2) = some (sG m 0 s3) from e5]
    rfl
  · refine gC_mark (w := w3.1) (Or.inl ((hX.1 15 (by decide) (by decide)).trans rfl)) ⟨fun k hk => ?_, fun k hk q => ?_, fun k j hk hj q _ => ?_⟩
    · obtain ⟨i, hi, rfl⟩ := List.getElem_of_mem hk
      exact c3 i (Nat.zero_le i) hi
    · obtain ⟨i, hi, e⟩ := q
      rw [hX.2 2 (by decide)] at e
      rcases b3 i k (Nat.zero_le i) hi hk e with q | q
      · exact Or.inl (Or.inl (c2 k q))
      · refine Or.inl (Or.inr ?_)
        rw [c4.1 17 (by decide) (by decide)]
        exact q
    · rw [hX.1 17 (by decide) (by decide)] at q
      have q2 : tb (w.1 17) k = true := q
      rw [hb, tb_0] at q2
      cases q2
  · show (if r = 21 then _ else if r = 20 then _ else if r = 19 then _ else if r = 15 then _ else w.1 r) = w.1 r
    rw [if_neg (by omega), if_neg (by omega), if_neg (by omega), if_neg (by omega)]
theorem e_isThere (w : St) : f_X4_isThere w = some (if w.1 15 = 0 then 0 else 1, w) := by
  unfold f_X4_isThere
  split <;> rfl
theorem part_pos {w : Nat → Int32} {B : Nat} (h : gI w B) : (0 : Int32) < w 15 ↔ ¬ w 15 = 0 := by
  rcases h.1 with q | q | q | q <;> rw [q] <;> decide
theorem stp_loop {B x : Nat} (hx : x < 100) (y z : Int32) : ∀ (n j : Nat) (w m : St) (rw li : List Nat), j ≤ x → x - j < n → SimL w (m.2 0) B rw li →
    ∃ w' s' rw' li', f_X5_doSteps_L37 n (nI x) y (nI j) w = some w' ∧ f_X7_step_L42 n (nI x) z (nI j) m = some (sG m 0 s') ∧ SimL w' s' B rw' li' ∧ (∃ d, d ≤ x - j ∧ w'.1 22 = w.1 22 + nI d) ∧ sf w w' := by
  intro n
  induction n with
  | zero => intro j w m rw li _ h; omega
  | succ n ih =>
    intro j w m rw li hj hn hS
    have h226 : m.2 0 (226 : Int32).toNatClampNeg = w.1 15 := hS.1.2.2.2.2.2.2.2.2.2.2.2.2.1.1
    have hI := hS.1.2.2.2.2.2.2.2.2.2.2.2.2.2
    have done : (f_X5_doSteps_L37 (n + 1) (nI x) y (nI j) w = some w ∧ f_X7_step_L42 (n + 1) (nI x) z (nI j) m = some m) → ∃ w' s' rw' li', f_X5_doSteps_L37 (n + 1) (nI x) y (nI j) w = some w' ∧ f_X7_step_L42 (n + 1) (nI x) z (nI j) m = some (sG m 0 s') ∧ SimL w' s' B rw' li' ∧ (∃ d, d ≤ x - j ∧ w'.1 22 = w.1 22 + nI d) ∧ sf w w' := fun q => ⟨w, m.2 0, rw, li, q.1, by rw [sG_self]; exact q.2, hS, ⟨0, Nat.zero_le _, (Int32.add_zero _).symm⟩, sf.rf w⟩
    by_cases h : j < x
    · have hlt : nI j < nI x := (nI_ltI (by omega) (by omega)).mpr h
      by_cases hp : w.1 15 = 0
      · refine done ⟨?_, ?_⟩
        · rw [f_X5_doSteps_L37, if_pos hlt, e_isThere, hp]
          rfl
        · rw [f_X7_step_L42, if_pos hlt, if_pos ib226, h226, if_neg (fun q => ((part_pos hI).mp q) hp)]
      · obtain ⟨w1, s1, rw1, li1, e1, e2, a1, _, a3, a4, a5⟩ := step_sim hS hp
        obtain ⟨w2, s2, rw2, li2, e3, e4, b1, ⟨d, hd, b2⟩, b3⟩ := ih (j + 1) w1 (sG m 0 s1) rw1 li1 (by omega) (by omega) (by rw [sG_2]; exact a1)
        rw [sG_sG] at e4
        refine ⟨w2, s2, rw2, li2, ?_, ?_, b1, ?_, sf.tr ⟨fun r hr => a4 r (by omega), a5⟩ b3⟩
        · rw [f_X5_doSteps_L37, if_pos hlt, e_isThere, if_neg hp]
          simp only [Option.bind_some, oz, if_false, e1]
          rw [nI_eq_of]
          exact e3
        · rw [f_X7_step_L42, if_pos hlt, if_pos ib226, h226, if_pos ((part_pos hI).mpr hp), e2]
          simp only [Option.bind_some]
          rw [nI_eq_of]
          exact e4
        · rcases a3 with q | q
          · exact ⟨d, by omega, by rw [b2, q]⟩
          · refine ⟨1 + d, by omega, ?_⟩
            rw [b2, q, Int32.add_assoc]
            exact congrArg (w.1 22 + ·) (nI_add 1 d)
    · have hlt : ¬ nI j < nI x := fun q => h ((nI_ltI (by omega) (by omega)).mp q)
      refine done ⟨?_, ?_⟩
      · rw [f_X5_doSteps_L37, if_neg hlt]
      · rw [f_X7_step_L42, if_neg hlt]
theorem all_loop {B : Nat} : ∀ (n j : Nat) (w m : St) (rw li : List Nat), mu w.1 < n → mu w.1 + j < 10000 → SimL w (m.2 0) B rw li →
    ∃ w' s' rw' li' j', f_X5_doAllSteps_L23 n (nI j) w = some (nI j', w') ∧ f_X7_doesAll_L17 n (nI j) m = some (nI j', sG m 0 s') ∧ SimL w' s' B rw' li' ∧ j' < 10000 ∧ sf w w' := by
  intro n
  induction n with
  | zero => intro j w m rw li h; omega
  | succ n ih =>
    intro j w m rw li hn hj hS
    have h226 : m.2 0 (226 : Int32).toNatClampNeg = w.1 15 := hS.1.2.2.2.2.2.2.2.2.2.2.2.2.1.1
    have hI := hS.1.2.2.2.2.2.2.2.2.2.2.2.2.2
    have hlt : nI j < 10000 := (ltL (by omega) (by omega)).mpr (by omega)
    by_cases hp : w.1 15 = 0
    · refine ⟨w, m.2 0, rw, li, j, ?_, ?_, hS, by omega, sf.rf w⟩
      · rw [f_X5_doAllSteps_L23, if_pos hlt, e_isThere, hp]
        rfl
      · rw [f_X7_doesAll_L17, if_pos ib226, h226, if_neg (fun q => ((part_pos hI).mp q) hp), sG_self]
    · obtain ⟨w1, s1, rw1, li1, e1, e2, a1, a2, a3, a4, a5⟩ := step_sim hS hp
      obtain ⟨w2, s2, rw2, li2, j2, e3, e4, b1, b2, b3⟩ := ih (j + 1) w1 (sG m 0 s1) rw1 li1 (by omega) (by omega) (by rw [sG_2]; exact a1)
      rw [sG_sG] at e4
      refine ⟨w2, s2, rw2, li2, j2, ?_, ?_, b1, b2, sf.tr ⟨fun r hr => a4 r (by omega), a5⟩ b3⟩
      · rw [f_X5_doAllSteps_L23, if_pos hlt, e_isThere, if_neg hp]
        simp only [Option.bind_some, oz, if_false, e1]
        rw [nI_eq_of]
        exact e3
      · rw [f_X7_doesAll_L17, if_pos ib226, h226, if_pos ((part_pos hI).mpr hp), e2]
        simp only [Option.bind_some]
        rw [nI_eq_of]
        exact e4
theorem doAll_sim {w m : St} {B : Nat} (h : Sim w (m.2 0) B) : ∃ j w' s', j < 10000 ∧ f_X5_doAllSteps w = some (nI j, w') ∧ f_X7_doesAll m = some (nI j, sG m 0 s') ∧ Sim w' s' (B + 1) ∧ sf w w' := by
  obtain ⟨rw, li, h⟩ := h
  have h226 : m.2 0 (226 : Int32).toNatClampNeg = w.1 15 := h.1.2.2.2.2.2.2.2.2.2.2.2.2.1.1
  by_cases hp : w.1 15 = 0
  · obtain ⟨w1, s1, rw1, e1, e2, a1, a2, a3, a4⟩ := open_sim h hp
    obtain ⟨w2, s2, rw2, li2, j, e3, e4, b1, b2, b3⟩ := all_loop BIG 0 w1 (sG m 0 s1) rw1 li (by have := mu_le w1.1; unfold BIG; omega) (by have := mu_le w1.1; omega) (by rw [sG_2]; exact a1)
    rw [sG_sG] at e4
    refine ⟨j, w2, s2, b2, ?_, ?_, ⟨rw2, li2, b1⟩, a4.tr b3⟩
    · unfold f_X5_doAllSteps
      rw [e_isThere, hp]
      simp only [Option.bind_some, if_true, e1]
      rw [show f_X5_doAllSteps_L23 BIG 0 w1 = _ from e3]
      rfl
    · unfold f_X7_doesAll
      rw [if_pos ib226, h226, if_pos hp, e2]
      simp only [Option.bind_some]
      rw [show f_X7_doesAll_L17 BIG 0 (sG m 0 s1) = _ from e4]
      rfl
  · obtain ⟨w2, s2, rw2, li2, j, e3, e4, b1, b2, b3⟩ := all_loop BIG 0 w m rw li (by have := mu_le w.1; unfold BIG; omega) (by have := mu_le w.1; omega) h
    refine ⟨j, w2, s2, b2, ?_, ?_, ⟨rw2, li2, ?_⟩, b3⟩
    · unfold f_X5_doAllSteps
      rw [e_isThere, if_neg hp]
      simp only [Option.bind_some, oz, if_false]
      rw [show f_X5_doAllSteps_L23 BIG 0 w = _ from e3]
      rfl
    · unfold f_X7_doesAll
      rw [if_pos ib226, h226, if_neg hp]
      rw [show f_X7_doesAll_L17 BIG 0 m = _ from e4]
      rfl
    · obtain ⟨n, q1, q2⟩ := b1.1.2.2.2.2.2.2.2.2.2.2.2.2.2.2.2.2
      exact ⟨⟨b1.1.1, b1.1.2.1, b1.1.2.2.1, b1.1.2.2.2.1, b1.1.2.2.2.2.1, b1.1.2.2.2.2.2.1, b1.1.2.2.2.2.2.2.1, b1.1.2.2.2.2.2.2.2.1, b1.1.2.2.2.2.2.2.2.2.1, b1.1.2.2.2.2.2.2.2.2.2.1, b1.1.2.2.2.2.2.2.2.2.2.2.1, b1.1.2.2.2.2.2.2.2.2.2.2.2.1, b1.1.2.2.2.2.2.2.2.2.2.2.2.2.1, b1.1.2.2.2.2.2.2.2.2.2.2.2.2.2.1, b1.1.2.2.2.2.2.2.2.2.2.2.2.2.2.2.1, b1.1.2.2.2.2.2.2.2.2.2.2.2.2.2.2.2.1, n, by omega, q2⟩, b1.2⟩
theorem doSteps_sim {w m : St} {B x : Nat} (hx : x < 100) (h1 : 0 < x) (h : Sim w (m.2 0) B) (hp : ¬ w.1 15 = 0) (z : Int32) : ∃ d w' s', d < 100 ∧ f_X5_doSteps (nI x) w = some (nI d, w') ∧ f_X7_step_L42 BIG (nI x) z 0 m = some (sG m 0 s') ∧ s' 230 - m.2 0 230 = nI d ∧ Sim w' s' B ∧ sf w w' := by
  obtain ⟨rw, li, h⟩ := h
  obtain ⟨w', s', rw', li', e1, e2, a1, ⟨d, hd, a2⟩, a3⟩ := stp_loop hx (w.1 22) z BIG 0 w m rw li (Nat.zero_le x) (by unfold BIG; omega) h
  have hv : ∀ a b : Int32, a + b - a = b := fun a b => by rw [Int32.add_comm]; exact Int32.add_sub_cancel b a
  refine ⟨d, w', s', by omega, ?_, e2, ?_, ⟨rw', li', a1⟩, a3⟩
  · unfold f_X5_doSteps
    have q1 : ¬ nI x < 1 := fun q => by have := (nI_ltI (b := 1) (by omega) (by omega)).mp q; omega
    have q2 : ¬ (99 : Int32) < nI x := fun q => by have := (nI_ltI (a := 99) (by omega) (by omega)).mp q; omega
    rw [if_neg q1, if_neg q2, e_isThere, if_neg hp]
    simp only [Option.bind_some, oz, if_false]
    rw [show f_X5_doSteps_L37 BIG (nI x) (w.1 22) 0 w = _ from e1]
    simp only [Option.bind_some]
    rw [a2, hv]
  · have n1 : s' 230 = w'.1 22 := a1.1.2.2.2.2.2.2.2.2.2.2.2.2.1.2.2.2.2.1
    have n2 : m.2 0 230 = w.1 22 := h.1.2.2.2.2.2.2.2.2.2.2.2.2.1.2.2.2.2.1
    rw [n1, n2, a2, hv]
