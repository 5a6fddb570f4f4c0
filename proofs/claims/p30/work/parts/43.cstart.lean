/-! PURE: a search begins, in the law -/
theorem open_pre {w m : St} {B : Nat} {rw li : List Nat} (h : SimL w (m.2 0) B rw li) (h0 : w.1 15 = 0) :
    ∃ s1, f_X7_begins_L50 BIG (nI 0) (sG m 0 (upd (upd (upd (upd (upd (m.2 0) 226 1) 228 (m.2 0 228 + 1)) 232 0) 233 0) 168 0)) = some (sG m 0 s1) ∧ SimB (sR (sR (sR (sR w 15 1) 19 (w.1 19 + 1)) 20 0) 21 0) s1 (B + 1) [] [] li ∧ (∀ y, y < 24 → s1 (7 * y + 5) = 0 ∧ s1 (7 * y + 6) = m.2 0 (7 * y + 6) + 1) ∧ ∀ i, (∀ y, y < 24 → i ≠ 7 * y + 5 ∧ i ≠ 7 * y + 6) → s1 i = upd (upd (upd (upd (upd (m.2 0) 226 1) 228 (m.2 0 228 + 1)) 232 0) 233 0) 168 0 i := by
  obtain ⟨hS, hC⟩ := h
  obtain ⟨hg, hb⟩ := hC.1 h0
  have ib228 : ib 228 235 := by decide
  have ib232 : ib 232 235 := by decide
  have ib233 : ib 233 235 := by decide
  have c228 : (228 : Int32).toNatClampNeg = 228 := by decide
  have c232 : (232 : Int32).toNatClampNeg = 232 := by decide
  have c233 : (233 : Int32).toNatClampNeg = 233 := by decide
  have hrw : rw = [] := by
    cases rw with
    | nil => rfl
    | cons k t =>
      have := (hS.2.2.2.2.2.2.2.1.2 k).mp (by simp)
      rw [hg, tb_0] at this
      cases this
  subst hrw
  obtain ⟨hA, hP, hF, hW, hCo, hE, hRw, hG, hLi, hO, hR, hH, hN, hI⟩ := hS
  obtain ⟨n1, n2, n3, n4, n5, n6, n7, n8, n9⟩ := hN
  obtain ⟨s1, e1, a1, a2⟩ := bg50 BIG 0 (sG m 0 (upd (upd (upd (upd (upd (m.2 0) 226 1) 228 (m.2 0 228 + 1)) 232 0) 233 0) 168 0)) (by omega) (by unfold BIG; omega)
  rw [sG_sG] at e1
  rw [sG_2] at a1 a2
  have hS1 : SimB (sR (sR (sR (sR w 15 1) 19 (w.1 19 + 1)) 20 0) 21 0) s1 (B + 1) [] [] li := by
    have fr : ∀ i, (∀ y, y < 24 → i ≠ 7 * y + 5 ∧ i ≠ 7 * y + 6) → i ≠ 226 → i ≠ 228 → i ≠ 232 → i ≠ 233 → i ≠ 168 → s1 i = m.2 0 i := by
      intro i hi x1 x2 x3 x4 x5
      rw [a2 i (fun y _ b => hi y b), upd_ne x5, upd_ne x4, upd_ne x3, upd_ne x2, upd_ne x1]
    refine ⟨hA, gP_s (fun j hj => fr _ (by omega) (by omega) (by omega) (by omega) (by omega) (by omega)) hP, gF_s (fun j f hj hf => fr _ (by omega) (by omega) (by omega) (by omega) (by omega) (by omega)) hF, gW_s (fun j hj => fr _ (by omega) (by omega) (by omega) (by omega) (by omega) (by omega)) hW, fun j hj hp => ?_, fun j hj hp => ?_, ⟨⟨hRw.1.1, hRw.1.2.1, hRw.1.2.2⟩, ?_, fun j hj => absurd hj (Nat.not_lt_zero j)⟩, hG, gL_s (fun j hj => fr _ (by omega) (by omega) (by omega) (by omega) (by omega) (by omega)) hLi, hO, gR_s (fun j hj => fr _ (by omega) (by omega) (by omega) (by omega) (by omega) (by omega)) hR, gR_s (fun j hj => fr _ (by omega) (by omega) (by omega) (by omega) (by omega) (by omega)) hH, ⟨?_, ?_, ?_, ?_, ?_, ?_, ?_, ?_, ?_⟩, Or.inr (Or.inl rfl), hI.2.1, hI.2.2.1, ?_⟩
    · rw [(a1 j (Nat.zero_le j) hj).1]
      show (0 : Int32) = if tb (w.1 17) j then 2 else if tb (w.1 16) j then 1 else 0
      rw [hg, hb, tb_0]
      rfl
    · rw [(a1 j (Nat.zero_le j) hj).2, upd_ne (by omega), upd_ne (by omega), upd_ne (by omega), upd_ne (by omega), upd_ne (by omega), hE j hj hp]
      exact sub_add1 _ _
    · rw [a2 168 (fun y _ b => by omega), upd_eq]
      exact hRw.1.1.symm
    · rw [a2 226 (fun y _ b => by omega), upd_ne (by omega), upd_ne (by omega), upd_ne (by omega), upd_ne (by omega), upd_eq]; rfl
    · rw [fr 227 (by omega) (by omega) (by omega) (by omega) (by omega) (by omega)]; exact n2
    · rw [a2 228 (fun y _ b => by omega), upd_ne (by omega), upd_ne (by omega), upd_ne (by omega), upd_eq, n3]; rfl
    · rw [fr 229 (by omega) (by omega) (by omega) (by omega) (by omega) (by omega)]; exact n4
    · rw [fr 230 (by omega) (by omega) (by omega) (by omega) (by omega) (by omega)]; exact n5
    · rw [fr 231 (by omega) (by omega) (by omega) (by omega) (by omega) (by omega)]; exact n6
    · rw [a2 232 (fun y _ b => by omega), upd_ne (by omega), upd_ne (by omega), upd_eq]; rfl
    · rw [a2 233 (fun y _ b => by omega), upd_ne (by omega), upd_eq]; rfl
    · rw [fr 234 (by omega) (by omega) (by omega) (by omega) (by omega) (by omega)]; exact n9
    · obtain ⟨n, q1, q2⟩ := hI.2.2.2
      refine ⟨n + 1, by omega, ?_⟩
      show w.1 19 + 1 = nI (n + 1)
      rw [q2, nI_eq_of]
  refine ⟨s1, e1, hS1, fun y hy => ⟨(a1 y (Nat.zero_le y) hy).1, ?_⟩, fun i hi => a2 i (fun y _ b => hi y b)⟩
  rw [(a1 y (Nat.zero_le y) hy).2, upd_ne (by omega), upd_ne (by omega), upd_ne (by omega), upd_ne (by omega), upd_ne (by omega)]
theorem sA_nI (m : St) (a k : Nat) (hk : k < 1000) (v : Int32) : sA m a (nI k) v = sG m a (upd (m.2 a) k v) := by
  unfold sA
  rw [clN (by omega)]
theorem lst29 : ∀ (n k : Nat) (m : St), k ≤ 24 → 24 - k < n → ∃ c' n', f_L_start_L29 n (nI k) m = some (sG (sG m 2 c') 4 n') ∧ (∀ y, k ≤ y → y < 24 → c' y = (if m.2 2 y < 0 then -1 else 0) ∧ n' y = m.2 4 y + 1) ∧ ∀ y, y < k → c' y = m.2 2 y ∧ n' y = m.2 4 y := by
  intro n
  induction n with
  | zero => intro k m _ h; omega
  | succ n ih =>
    intro k m hk hn
    by_cases h : k < 24
    · obtain ⟨c', n', e, a1, a2⟩ := ih (k + 1) (sG (sG m 2 (upd (m.2 2) k (if m.2 2 k < 0 then -1 else 0))) 4 (upd (m.2 4) k (m.2 4 k + 1))) (by omega) (by omega)
      have ck : (nI k).toNatClampNeg = k := clN (by omega)
      refine ⟨c', n', ?_, fun y hy1 hy2 => ?_, fun y hy => ?_⟩
      · rw [f_L_start_L29]
        have hi : (if m.2 2 k < 0 then some (-1 : Int32) else some (0 : Int32)) = some (if m.2 2 k < 0 then -1 else 0) := by split <;> rfl
        have hz : sG (sG (sG (sG m 2 (upd (m.2 2) k (if m.2 2 k < 0 then -1 else 0))) 4 (upd (m.2 4) k (m.2 4 k + 1))) 2 c') 4 n' = sG (sG m 2 c') 4 n' := by
          unfold sG
          refine Prod.ext rfl ?_
          funext b
          show (if b = 4 then n' else if b = 2 then c' else if b = 4 then _ else if b = 2 then _ else m.2 b) = if b = 4 then n' else if b = 2 then c' else m.2 b
          by_cases h4 : b = 4
          · subst h4; rfl
          · by_cases h2 : b = 2
            · subst h2; rfl
            · simp only [h4, h2, if_false]
        rw [hz] at e
        simp only [ck, addR]
        rw [if_pos ((ltL (by omega) (by omega)).mpr h), if_pos (ib24 h), hi, Option.bind_some, if_pos (ib24 h), if_pos (ib24 h), if_pos (ib24 h), sA_nI _ _ _ (by omega), sA_nI _ _ _ (by omega)]
        exact e
      · have b1 := a1 y
        by_cases ey : y = k
        · subst ey
          obtain ⟨q1, q2⟩ := a2 y (by omega)
          rw [q1, q2]
          exact ⟨upd_eq _ _ _, upd_eq _ _ _⟩
        · obtain ⟨q1, q2⟩ := a1 y (by omega) hy2
          rw [q1, q2]
          refine ⟨?_, ?_⟩
          · show (if upd (m.2 2) k _ y < 0 then _ else _) = _
            rw [upd_ne ey]
          · show upd (m.2 4) k _ y + 1 = _
            rw [upd_ne ey]
      · obtain ⟨q1, q2⟩ := a2 y (by omega)
        rw [q1, q2]
        exact ⟨upd_ne (by omega), upd_ne (by omega)⟩
    · have h4 : k = 24 := by omega
      subst h4
      refine ⟨m.2 2, m.2 4, ?_, fun y a b => by omega, fun y _ => ⟨rfl, rfl⟩⟩
      rw [f_L_start_L29, if_neg (by decide), sG_self, sG_self]
theorem T_start_roots {B : Nat} {li : List Nat} : ∀ (n j : Nat) (w m M : St) (rw : List Nat), j ≤ 4 → 4 - j < n → SimB w (M.2 0) B [] rw li → En m (M.2 0) →
    ∃ w' s' rw' m', f_X7_begins_L87 n (nI j) M = some (sG M 0 s') ∧ f_L_start_L69 n (nI j) m = some m' ∧ SimB w' s' B [] rw' li ∧ En m' s' ∧ frS (M.2 0) s' := by
  intro n
  induction n with
  | zero => intro j w m M rw _ h; omega
  | succ n ih =>
    intro j w m M rw hj hn hS hE
    by_cases h : j < 4
    · have hR := hS.2.2.2.2.2.2.2.2.2.2.1 j h
      have ht : m.2 7 j = w.2 2 j := (hE.2.2.2.1 j (by omega)).symm.trans hR.2
      obtain ⟨w1, s1, rw1, m1, _, e2, e3, a1, a2, a3, a4⟩ := T_shade hS hE hR.1
      obtain ⟨w2, s2, rw2, m2, e4, e5, b1, b2, b3⟩ := ih (j + 1) w1 m1 (sG M 0 s1) rw1 (by omega) (by omega) (by rw [sG_2]; exact a1) (by rw [sG_2]; exact a2)
      rw [sG_sG] at e4
      rw [sG_2] at b3
      refine ⟨w2, s2, rw2, m2, ?_, ?_, b1, b2, a3.tr b3⟩
      · rw [f_X7_begins_L87]
        have h235 : 218 + j < 235 := by omega
        simp (disch := omega) only [ltL, h, if_true, addL, ibN, clN, h235, hR.2, e2, Option.bind_some, addR]
        exact e4
      · rw [f_L_start_L69]
        have h8 : j < 8 := by omega
        simp (disch := omega) only [ltL, h, if_true, ibN, clN, h8, ht, e3, Option.bind_some, addR]
        exact e5
    · have h4 : j = 4 := by omega
      subst h4
      refine ⟨w, M.2 0, rw, m, ?_, ?_, hS, hE, frS.rf _⟩
      · rw [f_X7_begins_L87, sG_self]
        simp (disch := omega) only [ltL, if_false, Nat.lt_irrefl]
      · rw [f_L_start_L69]
        simp (disch := omega) only [ltL, if_false, Nat.lt_irrefl]
theorem T_start_list {B : Nat} {li : List Nat} : ∀ (n j : Nat) (w m M : St) (rw : List Nat), j ≤ li.length → li.length - j < n → SimB w (M.2 0) B [] rw li → En m (M.2 0) →
    ∃ w' s' rw' m', f_X7_begins_L114 n (nI j) M = some (sG M 0 s') ∧ f_L_start_L96 n (nI j) m = some m' ∧ SimB w' s' B [] rw' li ∧ En m' s' ∧ frS (M.2 0) s' := by
  intro n
  induction n with
  | zero => intro j w m M rw _ h; omega
  | succ n ih =>
    intro j w m M rw hj hn hS hE
    have h193 : ib 193 235 := by decide
    have c193 : (193 : Int32).toNatClampNeg = 193 := by decide
    obtain ⟨⟨l1, l2, l3⟩, l4, l5⟩ := hS.2.2.2.2.2.2.2.2.1
    have hO := hS.2.2.2.2.2.2.2.2.2.1
    have hm : M.2 0 193 = nI li.length := l4.trans l1
    have hx : M.2 0 (193 : Int32).toNatClampNeg = nI li.length := by rw [c193]; exact hm
    have hg9 : m.2 0 9 = nI li.length := (En_g hE).2.2.2.2.2.2.2.2.2.1.symm.trans hm
    by_cases h : j < li.length
    · have hv := l3 j h
      obtain ⟨w1, s1, rw1, m1, _, e2, e3, a1, a2, a3, a4⟩ := T_shade hS hE (x := nI li[j]) (Or.inr ⟨_, hv.2, rfl, hO.2 _ (List.getElem_mem h)⟩)
      obtain ⟨w2, s2, rw2, m2, e4, e5, b1, b2, b3⟩ := ih (j + 1) w1 m1 (sG M 0 s1) rw1 (by omega) (by omega) (by rw [sG_2]; exact a1) (by rw [sG_2]; exact a2)
      rw [sG_sG] at e4
      rw [sG_2] at b3
      have hlt : nI j < nI li.length := (nI_ltI (by omega) (by omega)).mpr h
      have h24 : j < 24 := by omega
      have h5 : M.2 0 (194 + j) = nI li[j] := (l5 j h).trans hv.1
      refine ⟨w2, s2, rw2, m2, ?_, ?_, b1, b2, a3.tr b3⟩
      · have h235 : 194 + j < 235 := by omega
        rw [f_X7_begins_L114, if_pos h193, hx, if_pos hlt]
        simp (disch := omega) only [addL, ibN, clN, h235, if_true, h5, e2, Option.bind_some, addR]
        exact e4
      · have h6 : m.2 5 j = nI li[j] := (hE.2.2.1 j h24).1.symm.trans h5
        rw [f_L_start_L96, if_pos i11_9]
        simp (disch := omega) only [cl_9, hg9, hlt, if_true, ibN, h24, clN, h6, e3, Option.bind_some, addR]
        exact e5
    · have h4 : j = li.length := by omega
      subst h4
      have hlt : ¬ nI li.length < nI li.length := fun q => by have := (nI_ltI (by omega) (by omega)).mp q; omega
      refine ⟨w, M.2 0, rw, m, ?_, ?_, hS, hE, frS.rf _⟩
      · rw [f_X7_begins_L114, if_pos h193, hx, if_neg hlt, sG_self]
      · rw [f_L_start_L96, if_pos i11_9]
        simp only [cl_9, hg9, hlt, if_false]
theorem T_start {w m M : St} {B : Nat} {rw li : List Nat} (h : SimL w (M.2 0) B rw li) (h0 : w.1 15 = 0) (hE : En m (M.2 0)) :
    ∃ w' s' rw' m', f_X4_open w = some (0, w') ∧ f_X7_begins M = some (0, sG M 0 s') ∧ f_L_start m = some (0, m') ∧ SimL w' s' (B + 1) rw' li ∧ En m' s' ∧ frB (M.2 0) s' ∧ w'.1 15 = 1 ∧ w'.1 22 = w.1 22 ∧ sf w w' := by
  obtain ⟨w', s', rw', e1, e2, e3, e4, e5, e6⟩ := open_sim h h0
  obtain ⟨s1, p1, p2, p3, p4⟩ := open_pre h h0
  obtain ⟨c', n', q1, q2, _⟩ := lst29 BIG 0 (sG m 0 (upd (upd (upd (upd (upd (m.2 0) 0 1) 2 (m.2 0 2 + 1)) 6 0) 7 0) 10 0)) (by omega) (by unfold BIG; omega)
  have hE1 : EnR (upd (upd (upd (upd (upd (m.2 0) 0 1) 2 (m.2 0 2 + 1)) 6 0) 7 0) 10 0) (m.2 1) (m.2 2) (m.2 3) (m.2 4) (m.2 5) (m.2 6) (m.2 7) (upd (upd (upd (upd (upd (M.2 0) 226 1) 228 (m.2 0 2 + 1)) 232 0) 233 0) 168 0) :=
    E_g10 (E_g7 (E_g6 (E_g2 (E_g0 hE (v := 1) (fun q => absurd q (by decide))) (m.2 0 2 + 1)) 0) 0) 0
  rw [show m.2 0 2 = M.2 0 228 from (En_g hE).2.2.1.symm] at hE1
  have hE2 : En (sG (sG (sG m 0 (upd (upd (upd (upd (upd (m.2 0) 0 1) 2 (m.2 0 2 + 1)) 6 0) 7 0) 10 0)) 2 c') 4 n') s1 := by
    obtain ⟨h1, h2, h3, h4, h5⟩ := hE1
    have hneg : ∀ y, y < 24 → (c' y < 0 ↔ m.2 2 y < 0) := fun y hy => by
      rw [(q2 y (Nat.zero_le y) hy).1]
      show ((if m.2 2 y < 0 then (-1 : Int32) else 0) < 0) ↔ _
      by_cases z : m.2 2 y < 0
      · rw [if_pos z]; exact ⟨fun _ => z, fun _ => by decide⟩
      · rw [if_neg z]; exact ⟨fun q => absurd q (by decide), fun q => absurd q z⟩
    have fr : ∀ i, (∀ y, y < 24 → i ≠ 7 * y + 5 ∧ i ≠ 7 * y + 6) → s1 i = (upd (upd (upd (upd (upd (M.2 0) 226 1) 228 (M.2 0 228 + 1)) 232 0) 233 0) 168 0) i := p4
    refine ⟨fun y hy => ?_, fun y hy => ?_, eR_s (fun j1 hj1 => ⟨fr _ (fun y _ => by omega), fr _ (fun y _ => by omega)⟩) h3, eT_s (fun j1 hj1 => fr _ (fun y _ => by omega)) h4, ?_⟩
    · obtain ⟨a, b⟩ := h1 y hy
      refine ⟨?_, fun z => ?_⟩
      · rw [fr _ (fun y2 _ => by omega), a]
        show _ = if c' y < 0 then (0 : Int32) else 1
        by_cases z : m.2 2 y < 0
        · rw [if_pos z, if_pos ((hneg y hy).mpr z)]
        · rw [if_neg z, if_neg (fun q => z ((hneg y hy).mp q))]
      · have z2 : ¬ m.2 2 y < 0 := fun q => z ((hneg y hy).mpr q)
        obtain ⟨b1, b2, b3⟩ := b z2
        refine ⟨?_, ?_, ?_⟩
        · rw [fr _ (fun y2 _ => by omega)]; exact b1
        · rw [(p3 y hy).1]
          show (0 : Int32) = c' y
          rw [(q2 y (Nat.zero_le y) hy).1]
          show (0 : Int32) = if m.2 2 y < 0 then -1 else 0
          rw [if_neg z2]
        · rw [(p3 y hy).2]
          show _ = n' y
          rw [(q2 y (Nat.zero_le y) hy).2]
          show M.2 0 (7 * y + 6) + 1 = m.2 4 y + 1
          rw [((hE.1 y hy).2 z2).2.2]
    · obtain ⟨a, b1, b2, b3⟩ := h2 y hy
      refine ⟨a, b1, b2, fun z i hi => ?_⟩
      rw [fr _ (fun y2 _ => by omega)]
      exact b3 (fun q => z ((hneg y hy).mpr q)) i hi
    · show eG (upd (upd (upd (upd (upd (m.2 0) 0 1) 2 (m.2 0 2 + 1)) 6 0) 7 0) 10 0) s1
      rw [show m.2 0 2 = M.2 0 228 from (En_g hE).2.2.1.symm]
      exact eG_s (fun i hi => fr i (fun y _ => by omega)) (fr _ (fun y _ => by omega)) (fr _ (fun y _ => by omega)) h5
  obtain ⟨w2, s2, rw2, m2, r1, r2, r3, r4, r5⟩ := T_start_roots BIG 0 _ (sG (sG (sG m 0 (upd (upd (upd (upd (upd (m.2 0) 0 1) 2 (m.2 0 2 + 1)) 6 0) 7 0) 10 0)) 2 c') 4 n') (sG M 0 s1) [] (by omega) (by unfold BIG; omega) (by rw [sG_2]; exact p2) (by rw [sG_2]; exact hE2)
  rw [sG_sG] at r1
  have hl24 := r3.2.2.2.2.2.2.2.2.1.1.2.1
  obtain ⟨w3, s3, rw3, m3, t1, t2, t3, t4, t5⟩ := T_start_list (li := li) BIG 0 w2 m2 (sG M 0 s2) rw2 (by omega) (by unfold BIG; omega) (by rw [sG_2]; exact r3) (by rw [sG_2]; exact r4)
  rw [sG_sG] at t1
  have ib228 : ib 228 235 := by decide
  have ib232 : ib 232 235 := by decide
  have ib233 : ib 233 235 := by decide
  have c228 : (228 : Int32).toNatClampNeg = 228 := by decide
  have c232 : (232 : Int32).toNatClampNeg = 232 := by decide
  have c233 : (233 : Int32).toNatClampNeg = 233 := by decide
  have es : s' = s3 := by
    unfold f_X7_begins at e2
    rw [if_pos ib226, if_pos ib228, if_pos ib228, if_pos ib232, if_pos ib233, if_pos ib168] at e2
    simp only [sA, c226, c228, c232, c233, c168, sG_2, sG_sG] at e2
    rw [upd_ne (show 228 ≠ 226 by decide)] at e2
    rw [show f_X7_begins_L50 BIG 0 (sG M 0 (upd (upd (upd (upd (upd (M.2 0) 226 1) 228 (M.2 0 228 + 1)) 232 0) 233 0) 168 0)) = some (sG M 0 s1) from p1] at e2
    simp only [Option.bind_some] at e2
    rw [show f_X7_begins_L87 BIG 0 (sG M 0 s1) = some (sG M 0 s2) from r1] at e2
    simp only [Option.bind_some] at e2
    rw [show f_X7_begins_L114 BIG 0 (sG M 0 s2) = some (sG M 0 s3) from t1] at e2
    exact (some_sG e2).symm
  subst es
  rw [sG_2] at r5 t5
  have hfb : frB (M.2 0) s' := by
    refine frB.tr ⟨fun k hk => ?_, ?_, ?_⟩ (r5.tr t5).b
    · rw [p4 _ (fun y _ => by omega), upd_ne (by omega), upd_ne (by omega), upd_ne (by omega), upd_ne (by omega), upd_ne (by omega)]
    · rw [p4 _ (fun y _ => by omega), upd_ne (by omega), upd_ne (by omega), upd_ne (by omega), upd_ne (by omega), upd_ne (by omega)]
    · rw [p4 _ (fun y _ => by omega), upd_ne (by omega), upd_ne (by omega), upd_ne (by omega), upd_ne (by omega), upd_ne (by omega)]
  refine ⟨w', s', rw', m3, e1, e2, ?_, e3, t4, hfb, e4, e5, e6⟩
  unfold f_L_start
  rw [if_pos i11_0, if_pos i11_2, if_pos i11_2, if_pos i11_6, if_pos i11_7, if_pos i11_10]
  simp only [sA, cl_0, cl_2, cl_6, cl_7, cl_10, sG_2, sG_sG]
  rw [upd_ne (show 2 ≠ 0 by decide)]
  rw [show f_L_start_L29 BIG 0 (sG m 0 (upd (upd (upd (upd (upd (m.2 0) 0 1) 2 (m.2 0 2 + 1)) 6 0) 7 0) 10 0)) = _ from q1]
  rw [Option.bind_some]
  rw [show f_L_start_L69 BIG 0 (sG (sG (sG m 0 (upd (upd (upd (upd (upd (m.2 0) 0 1) 2 (m.2 0 2 + 1)) 6 0) 7 0) 10 0)) 2 c') 4 n') = some m2 from r2]
  rw [Option.bind_some]
  rw [show f_L_start_L96 BIG 0 m2 = some m3 from t2]
  rfl
