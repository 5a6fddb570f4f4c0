/-! PURE: a step of the search, in the law -/
theorem l48 {n : Nat} (hn : n < 24) (x7 : Int32) : ∀ (fuel j : Nat) (m : St), m.2 0 10 = nI n → j ≤ n → n - j < fuel → ∃ r', f_L_go_L48 fuel x7 (nI j) m = some (sG m 6 r') ∧ ∀ i, r' i = if j ≤ i ∧ i < n then m.2 6 (i + 1) else m.2 6 i := by
  intro fuel
  induction fuel with
  | zero => intro j m _ _ h; omega
  | succ fuel ih =>
    intro j m h10 hj hf
    by_cases h : j < n
    · obtain ⟨r', e, hr⟩ := ih (j + 1) (sG m 6 (upd (m.2 6) j (m.2 6 (j + 1)))) h10 (by omega) (by omega)
      rw [sG_sG] at e
      rw [sG_2] at hr
      have c1 : (nI (j + 1)).toNatClampNeg = j + 1 := clN (by omega)
      refine ⟨r', ?_, fun i => ?_⟩
      · rw [f_L_go_L48, if_pos i11_10]
        simp only [cl_10, h10, addR, c1]
        rw [if_pos ((nI_ltI (by omega) (by omega)).mpr h), if_pos (ib24 (by omega)), if_pos (ib24 (by omega)), sA_nI _ _ _ (by omega)]
        exact e
      · rw [hr i]
        by_cases ei : i = j
        · subst ei
          rw [if_neg (fun q => by omega), upd_eq, if_pos ⟨Nat.le_refl _, h⟩]
        · by_cases z : j + 1 ≤ i ∧ i < n
          · rw [if_pos z, upd_ne (by omega), if_pos ⟨by omega, z.2⟩]
          · rw [if_neg z, upd_ne ei, if_neg (fun q => z ⟨by omega, q.2⟩)]
    · have h4 : j = n := by omega
      subst h4
      refine ⟨m.2 6, ?_, fun i => (if_neg (fun q => by omega)).symm⟩
      rw [f_L_go_L48, if_pos i11_10]
      simp only [cl_10, h10]
      rw [if_neg (fun q => by have := (nI_ltI (by omega) (by omega)).mp q; omega), sG_self]
section TK
variable {g f c w n l r t s : Nat → Int32}
theorem E_tkr (h : EnR g f c w n l r t s) {k : Nat} (hk : k < 24) {r' : Nat → Int32} (hr : ∀ i, r' i = if 0 ≤ i ∧ i < k then r (i + 1) else r i) : EnR (upd g 10 (nI k)) f c w n l r' t (tkS s 168 k) := by
  obtain ⟨h1, h2, h3, h4, h5⟩ := h
  have fr : ∀ i, (i < 168 ∨ 168 + k < i) → tkS s 168 k i = s i := fun i hi => by
    unfold tkS
    rw [if_neg (by omega), if_neg (by omega)]
  refine ⟨eC_s (fun y hy => ⟨fr _ (by omega), fr _ (by omega), fr _ (by omega), fr _ (by omega)⟩) h1, eF_s (fun y i hy hi => fr _ (by omega)) h2, fun j hj => ⟨by rw [fr _ (by omega)]; exact (h3 j hj).1, ?_⟩, eT_s (fun j hj => fr _ (by omega)) h4, ?_⟩
  · rw [hr j]
    unfold tkS
    by_cases z : j < k
    · rw [if_pos (by omega), if_pos ⟨Nat.zero_le _, z⟩]
      have := (h3 (j + 1) (by omega)).2
      rw [← this]
      congr 1
    · rw [if_neg (by omega), if_neg (by omega), if_neg (fun q => z q.2)]
      exact (h3 j hj).2
  · obtain ⟨a, b, c1, d, e, f1, i, j, k1, l1, m1⟩ := h5
    have e168 : tkS s 168 k 168 = nI k := by
      unfold tkS
      rw [if_neg (by omega), if_pos rfl]
    refine ⟨?_, fun q => ?_, ?_, ?_, ?_, ?_, ?_, ?_, ?_, ?_, ?_⟩
    · rw [fr _ (by omega), upd_ne (by omega)]; exact a
    · rw [upd_ne (by omega)] at q; rw [fr _ (by omega), upd_ne (by omega)]; exact b q
    · rw [fr _ (by omega), upd_ne (by omega)]; exact c1
    · rw [fr _ (by omega), upd_ne (by omega)]; exact d
    · rw [fr _ (by omega), upd_ne (by omega)]; exact e
    · rw [fr _ (by omega), upd_ne (by omega)]; exact f1
    · rw [fr _ (by omega), upd_ne (by omega)]; exact i
    · rw [fr _ (by omega), upd_ne (by omega)]; exact j
    · rw [fr _ (by omega), upd_ne (by omega)]; exact k1
    · rw [fr _ (by omega), upd_ne (by omega)]; exact l1
    · rw [e168, upd_eq]
theorem E_tkl (h : EnR g f c w n l r t s) {k : Nat} (hk : k < 24) {l' : Nat → Int32} (hr : ∀ i, l' i = if 0 ≤ i ∧ i < k then l (i + 1) else l i) : EnR (upd g 9 (nI k)) f c w n l' r t (tkS s 193 k) := by
  obtain ⟨h1, h2, h3, h4, h5⟩ := h
  have fr : ∀ i, (i < 193 ∨ 193 + k < i) → tkS s 193 k i = s i := fun i hi => by
    unfold tkS
    rw [if_neg (by omega), if_neg (by omega)]
  refine ⟨eC_s (fun y hy => ⟨fr _ (by omega), fr _ (by omega), fr _ (by omega), fr _ (by omega)⟩) h1, eF_s (fun y i hy hi => fr _ (by omega)) h2, fun j hj => ⟨?_, by rw [fr _ (by omega)]; exact (h3 j hj).2⟩, eT_s (fun j hj => fr _ (by omega)) h4, ?_⟩
  · rw [hr j]
    unfold tkS
    by_cases z : j < k
    · rw [if_pos (by omega), if_pos ⟨Nat.zero_le _, z⟩]
      have := (h3 (j + 1) (by omega)).1
      rw [← this]
      congr 1
    · rw [if_neg (by omega), if_neg (by omega), if_neg (fun q => z q.2)]
      exact (h3 j hj).1
  · obtain ⟨a, b, c1, d, e, f1, i, j, k1, l1, m1⟩ := h5
    have e193 : tkS s 193 k 193 = nI k := by
      unfold tkS
      rw [if_neg (by omega), if_pos rfl]
    refine ⟨?_, fun q => ?_, ?_, ?_, ?_, ?_, ?_, ?_, ?_, ?_, ?_⟩
    · rw [fr _ (by omega), upd_ne (by omega)]; exact a
    · rw [upd_ne (by omega)] at q; rw [fr _ (by omega), upd_ne (by omega)]; exact b q
    · rw [fr _ (by omega), upd_ne (by omega)]; exact c1
    · rw [fr _ (by omega), upd_ne (by omega)]; exact d
    · rw [fr _ (by omega), upd_ne (by omega)]; exact e
    · rw [fr _ (by omega), upd_ne (by omega)]; exact f1
    · rw [fr _ (by omega), upd_ne (by omega)]; exact i
    · rw [fr _ (by omega), upd_ne (by omega)]; exact j
    · rw [fr _ (by omega), upd_ne (by omega)]; exact k1
    · rw [e193, upd_eq]
    · rw [fr _ (by omega), upd_ne (by omega)]; exact m1
end TK
theorem T_mloop {k : Nat} (hk : k < 24) {B : Nat} {li : List Nat} : ∀ (n f : Nat) (w m M : St) (rw : List Nat), f ≤ 3 → 3 - f < n → SimB w (M.2 0) B [k] rw li → tb (w.1 13) k = true → En m (M.2 0) →
    ∃ w' s' rw' m', f_X7_blackens_L10 n (nI k) (nI f) M = some (sG M 0 s') ∧ f_L_go_L81 n (nI k) (nI (3 * k + f)) m = some m' ∧ SimB w' s' B [k] rw' li ∧ En m' s' ∧ frS (M.2 0) s' := by
  intro n
  induction n with
  | zero => intro f w m M rw _ h; omega
  | succ n ih =>
    intro f w m M rw hf hn hS hp hE
    have hst : (3 : Int32) * nI k + 3 = nI (3 * k + 3) := by rw [mulL, addR]
    by_cases h : f < 3
    · have hF := hS.2.2.1 k f hk h
      obtain ⟨v, ev, hv⟩ := at_s hE (i := 3 * k + f) (by omega)
      have hv2 : v = w.2 1 (3 * k + f) := by
        rw [hv (by rw [show (3 * k + f) / 3 = k by omega]; exact p_one hS.2.1 k hk hp), mF_at _ h]
        exact hF.2.1 hp
      obtain ⟨w1, s1, rw1, m1, _, e2, e3, a1, a2, a3, a4⟩ := T_shade hS hE hF.1
      obtain ⟨w2, s2, rw2, m2, e4, e5, b1, b2, b3⟩ := ih (f + 1) w1 m1 (sG M 0 s1) rw1 (by omega) (by omega) (by rw [sG_2]; exact a1) (by rw [a4.1 13 (by decide) (by decide)]; exact hp) (by rw [sG_2]; exact a2)
      rw [sG_sG] at e4
      rw [sG_2] at b3
      refine ⟨w2, s2, rw2, m2, ?_, ?_, b1, b2, a3.tr b3⟩
      · have e6 : f_X7_of (nI k) (nI (1 + f)) M = some (w.2 1 (3 * k + f), M) := by rw [e_of (by omega), hF.2.1 hp]
        rw [f_X7_blackens_L10]
        simp (disch := omega) only [ltL, h, if_true, addL, e6, Option.bind_some, e2, addR]
        exact e4
      · rw [f_L_go_L81, hst, if_pos ((nI_ltI (by omega) (by omega)).mpr (by omega)), ev, Option.bind_some, hv2, e3, Option.bind_some, addR]
        exact e5
    · have h4 : f = 3 := by omega
      subst h4
      refine ⟨w, M.2 0, rw, m, ?_, ?_, hS, hE, frS.rf _⟩
      · rw [f_X7_blackens_L10, sG_self]
        simp (disch := omega) only [ltL, if_false, Nat.lt_irrefl]
      · rw [f_L_go_L81, hst, if_neg (fun q => by have := (nI_ltI (by omega) (by omega)).mp q; omega)]
theorem T_mark {w m M : St} {B : Nat} {k : Nat} {t li : List Nat} {s' : Nat → Int32} (h : SimB w (M.2 0) B [] (k :: t) li) (hE : En m (M.2 0)) (hX : f_X7_blackens M = some (0, sG M 0 s')) :
    m.2 6 0 = nI k ∧ m.2 0 10 = nI (t.length + 1) ∧ k < 24 ∧ ∃ m', (f_L_go_L48 BIG (nI k) 0 (sG m 0 (upd (m.2 0) 10 (nI t.length)))).bind (fun o16 => (f_L_go_L81 BIG (nI k) (3 * (nI k)) o16).bind fun o23 => if ib (nI k) 24 then some ((0 : Int32), sA o23 2 (nI k) 2) else none) = some (0, m') ∧ En m' s' ∧ frB (M.2 0) s' := by
  obtain ⟨h1, e0, e1, e2, e3, hlt, hk⟩ := row_take h
  have hgk : tb (w.1 16) k = true := (h.2.2.2.2.2.2.2.1.2 k).mp (by simp)
  have hpk : tb (w.1 13) k = true := h.1.2.2.2.2.2.1 k hgk
  have hr0 : m.2 6 0 = nI k := (hE.2.2.1 0 (by omega)).2.symm.trans e1
  have hg10 : m.2 0 10 = nI (t.length + 1) := (En_g hE).2.2.2.2.2.2.2.2.2.2.symm.trans e3
  refine ⟨hr0, hg10, hk, ?_⟩
  obtain ⟨r', el, hr⟩ := l48 hlt (nI k) BIG 0 (sG m 0 (upd (m.2 0) 10 (nI t.length))) (by rw [sG_2, upd_eq]) (by omega) (by unfold BIG; omega)
  have hE1 : En (sG (sG m 0 (upd (m.2 0) 10 (nI t.length))) 6 r') (tkS (M.2 0) 168 t.length) := E_tkr hE hlt hr
  obtain ⟨w2, s2, rw2, m2, q1, q2, q3, q4, q5⟩ := T_mloop hk BIG 0 (sG (sR w 24 (nI t.length)) 5 (tk (w.2 5) t.length)) (sG (sG m 0 (upd (m.2 0) 10 (nI t.length))) 6 r') (sG M 0 (tkS (M.2 0) 168 t.length)) t (by omega) (by unfold BIG; omega) (by rw [sG_2]; exact h1) hpk (by rw [sG_2]; exact hE1)
  rw [sG_sG] at q1
  have es : s' = upd s2 (7 * k + 5) 2 := by
    unfold f_X7_blackens at hX
    rw [show f_X7_takes 168 M = some (M.2 0 169, sG M 0 (tkS (M.2 0) 168 t.length)) from e_takes (base := 168) (by omega) hlt e3] at hX
    simp only [e1, Option.bind_some, show f_X7_blackens_L10 BIG (nI k) 0 (sG M 0 (tkS (M.2 0) 168 t.length)) = some (sG M 0 s2) from q1, show f_X7_sets (nI k) 5 2 (sG M 0 s2) = some (0, sG (sG M 0 s2) 0 (upd ((sG M 0 s2).2 0) (7 * k + 5) 2)) from e_sets (j := 5) (by omega) 2, sG_2, sG_sG] at hX
    exact (some_sG hX).symm
  subst es
  have hp2 : s2 (7 * k) = 1 := by
    rw [q5.2 k hk, sG_2]
    unfold tkS
    rw [if_neg (by omega), if_neg (by omega)]
    exact p_one h.2.1 k hk hpk
  have hc2 := En_pres q4 hk hp2
  have tkf : ∀ i, (i < 168 ∨ 168 + t.length < i) → tkS (M.2 0) 168 t.length i = M.2 0 i := fun i hi => by
    unfold tkS
    rw [if_neg (by omega), if_neg (by omega)]
  have hfb : frB (M.2 0) (upd s2 (7 * k + 5) 2) := by
    have q6 := q5.b
    rw [sG_2] at q6
    refine ⟨fun y hy => ?_, ?_, ?_⟩
    · rw [upd_ne (by omega), q6.1 y hy, tkf _ (by omega)]
    · rw [upd_ne (by omega), q6.2.1, tkf _ (by omega)]
    · rw [upd_ne (by omega), q6.2.2, tkf _ (by omega)]
  refine ⟨sG m2 2 (upd (m2.2 2) k 2), ?_, E_c q4 hk hc2 (v := 2) (by decide), hfb⟩
  rw [show f_L_go_L48 BIG (nI k) 0 (sG m 0 (upd (m.2 0) 10 (nI t.length))) = _ from el, Option.bind_some, mulL, show f_L_go_L81 BIG (nI k) (nI (3 * k)) (sG (sG m 0 (upd (m.2 0) 10 (nI t.length))) 6 r') = some m2 from q2, Option.bind_some, if_pos (ib24 hk), sA_nI _ _ _ (by omega)]
theorem T_clears : ∀ (n j : Nat) (m M : St), j ≤ 4 → 4 - j < n → En m (M.2 0) → (∀ i, j ≤ i → i < 4 → okS (M.2 0) (M.2 0 (222 + i))) →
    ∃ s' m', f_X7_clears_L2 n (nI j) M = some (sG M 0 s') ∧ f_L_go_L165 n (nI (4 + j)) m = some m' ∧ En m' s' ∧ m'.2 0 = m.2 0 ∧ frB (M.2 0) s' := by
  intro n
  induction n with
  | zero => intro j m M _ h; omega
  | succ n ih =>
    intro j m M hj hn hE hok
    by_cases h : j < 4
    · have h235 : ib (nI (222 + j)) 235 := (ibN (by omega)).mpr (by omega)
      have c222 : (nI (222 + j)).toNatClampNeg = 222 + j := clN (by omega)
      have c4 : (nI (4 + j)).toNatClampNeg = 4 + j := clN (by omega)
      have hv : m.2 7 (4 + j) = M.2 0 (222 + j) := by
        rw [← hE.2.2.2.1 (4 + j) (by omega), show 218 + (4 + j) = 222 + j by omega]
      have fin : ∀ v, ∃ s' m', f_X7_clears_L2 n (nI (j + 1)) (sG M 0 (upd (M.2 0) (222 + j) v)) = some (sG M 0 s') ∧ f_L_go_L165 n (nI (4 + j + 1)) (sG m 7 (upd (m.2 7) (4 + j) v)) = some m' ∧ En m' s' ∧ m'.2 0 = m.2 0 ∧ frB (M.2 0) s' := by
        intro v
        have hE1 : En (sG m 7 (upd (m.2 7) (4 + j) v)) (upd (M.2 0) (222 + j) v) := by
          have := E_t hE (j := 4 + j) (by omega) v
          rw [show 218 + (4 + j) = 222 + j by omega] at this
          exact this
        obtain ⟨s', m', e1, e2, e3, e4, e5⟩ := ih (j + 1) (sG m 7 (upd (m.2 7) (4 + j) v)) (sG M 0 (upd (M.2 0) (222 + j) v)) (by omega) (by omega) (by rw [sG_2]; exact hE1) (fun i i1 i2 => by
          rw [sG_2, upd_ne (by omega)]
          rcases hok i (by omega) i2 with q | ⟨k, k1, k2, k3⟩
          · exact Or.inl q
          · exact Or.inr ⟨k, k1, k2, by rw [upd_ne (by omega)]; exact k3⟩)
        rw [sG_sG] at e1
        rw [sG_2] at e5
        exact ⟨s', m', e1, e2, e3, e4, frB.tr ⟨fun y hy => by rw [upd_ne (by omega)], by rw [upd_ne (by omega)], by rw [upd_ne (by omega)]⟩ e5⟩
      rcases hok j (Nat.le_refl _) h with q | ⟨k, hk, q, hp⟩
      · obtain ⟨s', m', e1, e2, e3, e4, e5⟩ := fin (-1)
        refine ⟨s', m', ?_, ?_, e3, e4, e5⟩
        · rw [f_X7_clears_L2]
          simp only [addL, c222, q, addR]
          rw [if_pos ((ltL (by omega) (by omega)).mpr h), if_pos h235, if_pos (by decide), if_pos h235]
          simp only [sA, c222]
          exact e1
        · rw [f_L_go_L165]
          simp only [c4, hv, q, addR]
          rw [if_pos ((ltL (by omega) (by omega)).mpr (by omega)), if_pos (ib8 (by omega)), if_pos (by decide), if_pos (ib8 (by omega)), Option.bind_some, if_pos (ib8 (by omega)), sA_nI _ _ _ (by omega)]
          exact e2
      · obtain ⟨hc, _, h5, _⟩ := En_c hE hk hp
        have ck : (nI k).toNatClampNeg = k := clN (by omega)
        by_cases h0 : m.2 2 k = 0
        · obtain ⟨s', m', e1, e2, e3, e4, e5⟩ := fin (-1)
          refine ⟨s', m', ?_, ?_, e3, e4, e5⟩
          · rw [f_X7_clears_L2]
            simp only [addL, c222, q, addR]
            rw [if_pos ((ltL (by omega) (by omega)).mpr h), if_pos h235, if_neg (nI_pos (by omega)), e_of5 hk, Option.bind_some, if_pos (h5.trans h0), if_pos h235]
            simp only [sA, c222]
            exact e1
          · rw [f_L_go_L165]
            simp only [c4, hv, q, ck, addR]
            rw [if_pos ((ltL (by omega) (by omega)).mpr (by omega)), if_pos (ib8 (by omega)), if_neg (nI_pos (by omega)), if_pos (ib8 (by omega)), if_pos (ib24 hk), if_pos h0, Option.bind_some, if_pos (ib8 (by omega)), sA_nI _ _ _ (by omega)]
            exact e2
        · obtain ⟨s', m', e1, e2, e3, e4, e5⟩ := fin (nI k)
          refine ⟨s', m', ?_, ?_, e3, e4, e5⟩
          · rw [f_X7_clears_L2]
            simp only [addL, c222, q, addR]
            rw [if_pos ((ltL (by omega) (by omega)).mpr h), if_pos h235, if_neg (nI_pos (by omega)), e_of5 hk, Option.bind_some, if_neg (fun z => h0 (h5.symm.trans z)), if_pos h235]
            simp only [sA, c222]
            exact e1
          · rw [f_L_go_L165]
            simp only [c4, hv, q, ck, addR]
            rw [if_pos ((ltL (by omega) (by omega)).mpr (by omega)), if_pos (ib8 (by omega)), if_neg (nI_pos (by omega)), if_pos (ib8 (by omega)), if_pos (ib24 hk), if_neg h0, if_pos (ib8 (by omega)), Option.bind_some, if_pos (ib8 (by omega)), sA_nI _ _ _ (by omega)]
            exact e2
    · have h4 : j = 4 := by omega
      subst h4
      refine ⟨M.2 0, m, ?_, ?_, hE, rfl, frB.rf _⟩
      · rw [f_X7_clears_L2, if_neg (by decide), sG_self]
      · rw [f_L_go_L165, if_neg (by decide)]
theorem hold_ok {w : St} {s : Nat → Int32} {B : Nat} {ex rw li : List Nat} (h : SimB w s B ex rw li) : ∀ i, 0 ≤ i → i < 4 → okS s (s (222 + i)) := fun i _ hi => by
  have hH := h.2.2.2.2.2.2.2.2.2.2.2.1 i hi
  rw [hH.2]
  exact okr_okS h.2.1 hH.1
theorem l120 : ∀ (n j : Nat) (m : St), j ≤ 24 → 24 - j < n → ∃ k, j ≤ k ∧ k ≤ 24 ∧ f_L_go_L120 n (nI j) m = some (nI k, m) ∧ (k < 24 → m.2 2 k = 0 ∧ m.2 3 k = 1) ∧ ∀ i, j ≤ i → i < k → ¬ (m.2 2 i = 0 ∧ m.2 3 i = 1) := by
  intro n
  induction n with
  | zero => intro j m _ h; omega
  | succ n ih =>
    intro j m hj hn
    by_cases h : j < 24
    · have cj : (nI j).toNatClampNeg = j := clN (by omega)
      obtain ⟨k, k1, k2, e, k3, k4⟩ := ih (j + 1) m (by omega) (by omega)
      by_cases q1 : m.2 2 j = 0
      · by_cases q2 : m.2 3 j = 1
        · refine ⟨j, Nat.le_refl _, hj, ?_, fun _ => ⟨q1, q2⟩, fun i a b => by omega⟩
          rw [f_L_go_L120]
          simp only [cj, addR]
          rw [if_pos ((ltL (by omega) (by omega)).mpr h), if_pos (ib24 h), if_pos q1, if_pos (ib24 h), if_pos q2]
        · refine ⟨k, by omega, k2, ?_, k3, fun i a b => ?_⟩
          · rw [f_L_go_L120]
            simp only [cj, addR]
            rw [if_pos ((ltL (by omega) (by omega)).mpr h), if_pos (ib24 h), if_pos q1, if_pos (ib24 h), if_neg q2]
            exact e
          · by_cases ei : i = j
            · subst ei; exact fun z => q2 z.2
            · exact k4 i (by omega) b
      · refine ⟨k, by omega, k2, ?_, k3, fun i a b => ?_⟩
        · rw [f_L_go_L120]
          simp only [cj, addR]
          rw [if_pos ((ltL (by omega) (by omega)).mpr h), if_pos (ib24 h), if_neg q1]
          exact e
        · by_cases ei : i = j
          · subst ei; exact fun z => q1 z.1
          · exact k4 i (by omega) b
    · have h4 : j = 24 := by omega
      subst h4
      refine ⟨24, Nat.le_refl _, Nat.le_refl _, ?_, fun q => by omega, fun i a b => by omega⟩
      rw [f_L_go_L120, if_neg (by decide)]
theorem want_link {w m : St} {s : Nat → Int32} {B : Nat} {ex rw li : List Nat} (h : SimB w s B ex rw li) (hE : En m s) {j : Nat} (hj : j < 24) : (m.2 2 j = 0 ∧ m.2 3 j = 1) ↔ tb (whI w.1 &&& w.1 14) j = true := by
  obtain ⟨hA, hP, hF, hW, hCo, hE2, hRw, hG, hLi, hO, hR, hH, hN, hI⟩ := h
  rw [tb_and, Bool.and_eq_true, tb_wh w.1 (by omega)]
  constructor
  · rintro ⟨a, b⟩
    have hc : ¬ m.2 2 j < 0 := by rw [a]; decide
    have hp : tb (w.1 13) j = true := by
      cases e : tb (w.1 13) j
      · exact absurd ((En_neg hE hP hj).mpr e) hc
      · rfl
    obtain ⟨h4, h5, _⟩ := (hE.1 j hj).2 hc
    refine ⟨⟨hp, (col_0 hCo hj hp).mp (h5.trans a)⟩, ?_⟩
    have := hW j hj hp
    rw [h4, b] at this
    cases e : tb (w.1 14) j
    · rw [e] at this; exact absurd this (by decide)
    · rfl
  · rintro ⟨⟨hp, hw⟩, ht⟩
    obtain ⟨hc, h4, h5, _⟩ := En_c hE hj (p_one hP j hj hp)
    refine ⟨h5.symm.trans ((col_0 hCo hj hp).mpr hw), ?_⟩
    rw [← h4, hW j hj hp, ht]
    rfl
/-- a step of the search: class, model, law -/
theorem T_go {w m M : St} {B : Nat} {rw li : List Nat} (h : SimL w (M.2 0) B rw li) (h0 : ¬ w.1 15 = 0) (hE : En m (M.2 0)) :
    ∃ w' s' rw' li' m', f_X4_advance w = some (0, w') ∧ f_X7_steps M = some (0, sG M 0 s') ∧ f_L_go m = some (0, m') ∧ SimL w' s' B rw' li' ∧ En m' s' ∧ mu w'.1 < mu w.1 ∧ (w'.1 22 = w.1 22 ∨ w'.1 22 = w.1 22 + 1) ∧ xf w.1 w'.1 ∧ w'.2 0 = w.2 0 ∧ (Bal (M.2 0) → Bal s') := by
  obtain ⟨w', s', rw', li', z1, z2, z3, z4, z5, z6, z7⟩ := step_sim h h0
  suffices hL : ∃ m', f_L_go m = some (0, m') ∧ En m' s' ∧ (Bal (M.2 0) → Bal s') by
    obtain ⟨m', y1, y2, y3⟩ := hL
    exact ⟨w', s', rw', li', m', z1, z2, y1, z3, y2, z4, z5, z6, z7, y3⟩
  have ib232 : ib 232 235 := by decide
  have c232 : (232 : Int32).toNatClampNeg = 232 := by decide
  obtain ⟨hS, hC⟩ := h
  have hN := hS.2.2.2.2.2.2.2.2.2.2.2.2.1
  have hI := hS.2.2.2.2.2.2.2.2.2.2.2.2.2
  have hG := En_g hE
  have h20 : M.2 0 232 = w.1 20 := hN.2.2.2.2.2.2.1
  have hS1 := set_20 hS (w.1 20 + 1)
  obtain ⟨M1, hM1⟩ : ∃ M1, M1 = sG M 0 (upd (M.2 0) 232 (w.1 20 + 1)) := ⟨_, rfl⟩
  have hM10 : M1.2 0 = upd (M.2 0) 232 (w.1 20 + 1) := by rw [hM1, sG_2]
  have hb1 : Bal (M.2 0) → Bal (M1.2 0) := frB.bal ⟨fun y hy => by rw [hM10, upd_ne (by omega)], by rw [hM10, upd_ne (by omega)], by rw [hM10, upd_ne (by omega)]⟩
  have hMs : ∀ x, sG M1 0 x = sG M 0 x := fun x => by rw [hM1, sG_sG]
  have hsA : sA M 0 232 (M.2 0 (232 : Int32).toNatClampNeg + 1) = M1 := by rw [hM1]; unfold sA; rw [c232, h20]
  have h226 : M1.2 0 (226 : Int32).toNatClampNeg = w.1 15 := by rw [c226, hM10, upd_ne (by decide)]; exact hN.1
  have h168 : M1.2 0 (168 : Int32).toNatClampNeg = w.1 24 := by rw [c168, hM10, upd_ne (by decide)]; exact hS.2.2.2.2.2.2.1.2.1
  rw [← hM10] at hS1
  have key : f_X7_steps M = (if w.1 15 = 3 then (f_X7_sweeps M1).bind fun o5 => some (0, o5.2) else if (0 : Int32) < w.1 24 then (f_X7_blackens M1).bind fun o9 => some (0, o9.2) else if w.1 15 = 1 then (f_X7_clears M1).bind fun o13 => if ib 226 235 then some (0, sA o13.2 0 226 2) else none else (f_X7_looksForFinish M1).bind fun o16 => some (0, o16.2)) := by
    unfold f_X7_steps
    rw [if_pos ib232, if_pos ib232, if_pos ib226, hsA, if_pos ib168, if_pos ib226]
    simp only [h226, h168]
  rw [key] at z2
  obtain ⟨m1, hm1⟩ : ∃ m1, m1 = sG m 0 (upd (m.2 0) 6 (m.2 0 6 + 1)) := ⟨_, rfl⟩
  have hm10 : m1.2 0 = upd (m.2 0) 6 (m.2 0 6 + 1) := by rw [hm1, sG_2]
  have hm16 : m1.2 6 = m.2 6 := by rw [hm1]; rfl
  have hE1 : En m1 (M1.2 0) := by
    rw [hm1, hM10, ← h20, hG.2.2.2.2.2.2.1]
    exact E_g6 hE _
  have hsm : sA m 0 6 (m.2 0 6 + 1) = m1 := by rw [hm1]; unfold sA; rw [cl_6]
  have g0 : m1.2 0 0 = w.1 15 := by rw [hm10, upd_ne (by decide)]; exact hG.1.symm.trans hN.1
  have g10 : m1.2 0 10 = w.1 24 := by rw [hm10, upd_ne (by decide)]; exact hG.2.2.2.2.2.2.2.2.2.2.symm.trans hS.2.2.2.2.2.2.1.2.1
  have n31 : ¬ (1 : Int32) = 3 := by decide
  by_cases h3 : w.1 15 = 3
  · obtain ⟨w1, s1, e1, e2, _⟩ := sweep_sim (w := sR w 20 (w.1 20 + 1)) (m := M1) ⟨hS1, hC⟩ h3
    have hrw : rw = [] := by
      cases rw with
      | nil => rfl
      | cons k t =>
        obtain ⟨f, hf, hf18⟩ := hI.2.2.1
        have k0 := (hC.2.2 h3 f hf hf18).1
        have := (hS.2.2.2.2.2.2.2.1.2 k).mp (by simp)
        rw [k0, tb_0] at this
        cases this
    obtain ⟨m', q1, q2, q3⟩ := T_sweep hS1 h3 hE1 e2
    rw [if_pos h3, e2] at z2
    simp only [Option.bind_some, hMs] at z2
    have es := some_sG z2
    subst es
    refine ⟨m', ?_, q2, fun hb => q3 (hb1 hb)⟩
    unfold f_L_go
    simp only [cl_6, cl_0]
    rw [if_pos i11_6, if_pos i11_6, hsm, if_pos i11_0, g0, if_pos h3, q1]
    rfl
  · have hpt : w.1 15 = 1 ∨ w.1 15 = 2 := by
      rcases hI.1 with q | q | q | q
      · exact absurd q h0
      · exact Or.inl q
      · exact Or.inr q
      · exact absurd q h3
    have hM := hC.2.1 hpt
    rw [if_neg h3] at z2
    cases rw with
    | cons k t =>
      obtain ⟨w1, s1, rw1, e1, e2, _⟩ := mark_sim (w := sR w 20 (w.1 20 + 1)) (m := M1) hS1 hM
      obtain ⟨q0, q10, hk, m', q1, q2, q3⟩ := T_mark hS1 hE1 e2
      have h24 : (0 : Int32) < w.1 24 := by
        rw [← g10, q10]
        have hle : t.length + 1 ≤ 24 := hS.2.2.2.2.2.2.1.1.2.1
        exact (nI_ltI (a := 0) (by omega) (by omega)).mpr (by omega)
      rw [if_pos h24, e2] at z2
      simp only [Option.bind_some, hMs] at z2
      have es := some_sG z2
      subst es
      refine ⟨m', ?_, q2, fun hb => q3.bal (hb1 hb)⟩
      have hdec : sA m1 0 10 (m1.2 0 10 - 1) = sG m1 0 (upd (m1.2 0) 10 (nI t.length)) := by
        unfold sA
        rw [cl_10, q10, subL1]
      have hmk : m.2 6 0 = nI k := by rw [← hm16]; exact q0
      unfold f_L_go
      simp only [cl_6, cl_0, cl_10]
      rw [if_pos i11_6, if_pos i11_6, hsm, if_pos i11_0, g0, if_neg h3, if_pos i11_10, if_pos (show (0 : Int32) < m1.2 0 10 by rw [g10]; exact h24), if_pos ib0, if_pos i11_10, if_pos i11_10, hdec, hmk]
      exact q1
    | nil =>
      have h24 : ¬ (0 : Int32) < w.1 24 := by
        have : w.1 24 = nI 0 := hS.2.2.2.2.2.2.1.1.1
        rw [this]
        decide
      rw [if_neg h24] at z2
      obtain ⟨k, _, k2, ek, k3, k4⟩ := l120 BIG 0 m1 (by omega) (by unfold BIG; omega)
      have ek : f_L_go_L120 BIG 0 m1 = some (nI k, m1) := ek
      have clr : ∃ s1 m2, f_X7_clears M1 = some (0, sG M1 0 s1) ∧ f_L_go_L165 BIG 4 m1 = some m2 ∧ En m2 s1 ∧ m2.2 0 = m1.2 0 ∧ frB (M1.2 0) s1 := by
        obtain ⟨s1, m2, c1, c2, c3, c4, c5⟩ := T_clears BIG 0 m1 M1 (by omega) (by unfold BIG; omega) hE1 (hold_ok hS1)
        refine ⟨s1, m2, ?_, c2, c3, c4, c5⟩
        unfold f_X7_clears
        rw [show f_X7_clears_L2 BIG 0 M1 = some (sG M1 0 s1) from c1]
        rfl
      by_cases h1 : w.1 15 = 1
      · obtain ⟨s1, m2, c1, c2, c3, c4, c5⟩ := clr
        rw [if_pos h1, c1] at z2
        simp only [Option.bind_some] at z2
        rw [if_pos ib226] at z2
        simp only [sA, c226, sG_2, sG_sG, hMs] at z2
        have es := some_sG z2
        subst es
        refine ⟨sG m2 0 (upd (upd (m2.2 0) 0 2) 1 0), ?_, E_g1n (E_g0 c3 (v := 2) (fun q => absurd q (by decide))) (by rw [upd_eq]; decide) 0, fun hb => frB.bal ⟨fun y hy => by rw [upd_ne (by omega)], by rw [upd_ne (by omega)], by rw [upd_ne (by omega)]⟩ (c5.bal (hb1 hb))⟩
        have hg2 : m2.2 0 0 = 1 := by rw [c4, g0, h1]
        unfold f_L_go
        simp only [cl_6, cl_0, cl_10]
        rw [if_pos i11_6, if_pos i11_6, hsm, if_pos i11_0, g0, if_neg h3, if_pos i11_10, if_neg (show ¬ (0 : Int32) < m1.2 0 10 by rw [g10]; exact h24), ek, Option.bind_some]
        dsimp only
        rw [if_pos i11_0, if_pos (g0.trans h1), c2, Option.bind_some, if_pos i11_0, if_pos i11_0, if_pos i11_1, hg2]
        simp only [sA, cl_0, cl_1, sG_2, sG_sG]
        rfl
      · have h2 : w.1 15 = 2 := hpt.elim (fun q => absurd q h1) id
        rw [if_neg h1] at z2
        rcases Nat.lt_or_ge k 24 with hk | hk
        · have hkk := (want_link hS1 hE1 hk).mp (k3 hk)
          have hk2 : ∀ j, j < k → tb (whI (sR w 20 (w.1 20 + 1)).1 &&& (sR w 20 (w.1 20 + 1)).1 14) j = false := fun j hj => by
            cases e : tb (whI (sR w 20 (w.1 20 + 1)).1 &&& (sR w 20 (w.1 20 + 1)).1 14) j
            · rfl
            · exact absurd ((want_link hS1 hE1 (by omega)).mpr e) (k4 j (Nat.zero_le _) hj)
          have hkk2 := hkk
          rw [tb_and, Bool.and_eq_true, tb_wh _ (by omega)] at hkk2
          obtain ⟨⟨hp, hw⟩, hwt⟩ := hkk2
          have hnl : k ∉ li := fun q => hw (hM.1 k q)
          have hS2 := want_off hS1 hk
          obtain ⟨hlt, hS3⟩ := list_add hS2 hk hp hnl
          have hl0 : (sR w 20 (w.1 20 + 1)).1 23 = nI li.length := hS1.2.2.2.2.2.2.2.2.1.1.1
          have hs0 : M1.2 0 193 = nI li.length := (hS1.2.2.2.2.2.2.2.2.1.2.1).trans hl0
          have hg9 : m1.2 0 9 = nI li.length := (En_g hE1).2.2.2.2.2.2.2.2.2.1.symm.trans hs0
          have hE2 : En (sG (sG (sG m1 3 (upd (m1.2 3) k 0)) 5 (upd (m1.2 5) li.length (nI k))) 0 (upd (m1.2 0) 9 (nI (li.length + 1)))) (adS (upd (M1.2 0) (7 * k + 4) 0) k li.length) :=
            E_lst (E_g9 (E_w hE1 hk 0) (nI (li.length + 1))) hlt (nI k)
          have hm2 : (sG M1 0 (adS (upd (M1.2 0) (7 * k + 4) 0) k li.length)).2 0 = adS (upd (M1.2 0) (7 * k + 4) 0) k li.length := sG_2 _ _ _
          rw [← hm2] at hS3 hE2
          obtain ⟨w3, s3, rw3, m3, t1, t2, t3, t4, t5, t6, t7⟩ := T_shade hS3 hE2 (x := nI k) (Or.inr ⟨k, hk, rfl, hp⟩)
          obtain ⟨w1, s1, rw1, e1, e2, _⟩ := find_some (w := sR w 20 (w.1 20 + 1)) (m := M1) hS1 hM hk hkk hk2
          have e2' := e2
          have es1 : s1 = s3 := by
            obtain ⟨r2, e4, hh2⟩ := look_loop hS1 BIG 23 (-1) (by omega) (by unfold BIG; omega)
            have hr2 : r2 = nI k := by
              rcases hh2 with ⟨k', y1, y2, y3, y4⟩ | ⟨a, b⟩
              · rcases Nat.lt_trichotomy k' k with q | q | q
                · rw [hk2 k' q] at y2; cases y2
                · rw [y4, q]
                · rw [y3 k q] at hkk; cases hkk
              · rw [b k (by omega)] at hkk; cases hkk
            subst hr2
            have h193 : ib 193 235 := by decide
            have c193 : (193 : Int32).toNatClampNeg = 193 := by decide
            unfold f_X7_looksForFinish at e2'
            rw [show f_X7_looksForFinish_L5 BIG (-1) 23 M1 = some (nI k, M1) from e4] at e2'
            simp only [Option.bind_some] at e2'
            rw [if_neg (nI_pos (by omega)), show f_X7_sets (nI k) 4 0 M1 = some (0, sG M1 0 (upd (M1.2 0) (7 * k + 4) 0)) from e_sets (j := 4) (by omega) 0] at e2'
            have q1 : upd (M1.2 0) (7 * k + 4) 0 193 = nI li.length := by rw [upd_ne (by omega)]; exact hs0
            have h235 : 193 + (li.length + 1) < 235 := by omega
            simp (disch := omega) only [Option.bind_some, h193, if_true, sA, c193, sG_2, sG_sG, q1, addR, upd_eq, addL, ibN, clN, h235] at e2'
            have e7 : f_X7_shades (nI k) (sG M1 0 (upd (upd (upd (M1.2 0) (7 * k + 4) 0) 193 (nI (li.length + 1))) (193 + (li.length + 1)) (nI k))) = some (0, sG M1 0 s3) := by
              rw [show 193 + (li.length + 1) = 194 + li.length by omega]
              rw [sG_sG] at t2
              exact t2
            rw [e7] at e2'
            exact (some_sG e2').symm
          rw [e2] at z2
          simp only [Option.bind_some, hMs] at z2
          have es := some_sG z2
          subst es
          subst es1
          have hfb : frB (M1.2 0) s1 := by
            have t8 := t6.b
            rw [hm2] at t8
            refine frB.tr ⟨fun y hy => ?_, ?_, ?_⟩ t8
            · unfold adS; rw [upd_ne (by omega), upd_ne (by omega), upd_ne (by omega)]
            · unfold adS; rw [upd_ne (by omega), upd_ne (by omega), upd_ne (by omega)]
            · unfold adS; rw [upd_ne (by omega), upd_ne (by omega), upd_ne (by omega)]
          refine ⟨m3, ?_, t5, fun hb => hfb.bal (hb1 hb)⟩
          have hn24 : ¬ nI k = 24 := fun q => by have := (nI_eq (a := k) (b := 24) (by omega) (by omega)).mp q; omega
          have hst : sA (sA (sA m1 3 (nI k) 0) 5 (nI li.length) (nI k)) 0 9 (nI (li.length + 1)) = sG (sG (sG m1 3 (upd (m1.2 3) k 0)) 5 (upd (m1.2 5) li.length (nI k))) 0 (upd (m1.2 0) 9 (nI (li.length + 1))) := by
            rw [sA_nI _ _ _ (by omega), sA_nI _ _ _ (by omega)]
            unfold sA
            rw [cl_9]
            rfl
          unfold f_L_go
          simp only [cl_6, cl_0, cl_10, cl_9]
          rw [if_pos i11_6, if_pos i11_6, hsm, if_pos i11_0, g0, if_neg h3, if_pos i11_10, if_neg (show ¬ (0 : Int32) < m1.2 0 10 by rw [g10]; exact h24), ek, Option.bind_some]
          dsimp only
          rw [if_pos i11_0, if_neg (show ¬ m1.2 0 0 = 1 by rw [g0]; exact h1), if_neg hn24, if_pos (ib24 hk), if_pos i11_9, hg9, if_pos (ib24 hlt), if_pos i11_9, if_pos i11_9, addR, hst, t3]
          rfl
        · have h24' : k = 24 := by omega
          subst h24'
          have hn : ∀ j, j < 24 → tb (whI (sR w 20 (w.1 20 + 1)).1 &&& (sR w 20 (w.1 20 + 1)).1 14) j = false := fun j hj => by
            cases e : tb (whI (sR w 20 (w.1 20 + 1)).1 &&& (sR w 20 (w.1 20 + 1)).1 14) j
            · rfl
            · exact absurd ((want_link hS1 hE1 hj).mpr e) (k4 j (Nat.zero_le _) hj)
          obtain ⟨s1, m2, c1, c2, c3, c4, c5⟩ := clr
          obtain ⟨r2, e4, hh2⟩ := look_loop hS1 BIG 23 (-1) (by omega) (by unfold BIG; omega)
          have hr2 : r2 = -1 := by
            rcases hh2 with ⟨k', y1, y2, _⟩ | ⟨a, _⟩
            · rw [hn k' (by omega)] at y2; cases y2
            · exact a
          subst hr2
          unfold f_X7_looksForFinish at z2
          rw [show f_X7_looksForFinish_L5 BIG (-1) 23 M1 = some (-1, M1) from e4] at z2
          simp only [Option.bind_some] at z2
          rw [if_pos (by decide), c1] at z2
          simp only [Option.bind_some, sA, c226, c227, sG_2, sG_sG, hMs] at z2
          rw [if_pos ib226, if_pos ib227] at z2
          have es := some_sG z2
          subst es
          refine ⟨sG m2 0 (upd (upd (m2.2 0) 0 3) 1 0), ?_, ?_, fun hb => frB.bal ⟨fun y hy => by rw [upd_ne (by omega), upd_ne (by omega)], by rw [upd_ne (by omega), upd_ne (by omega)], by rw [upd_ne (by omega), upd_ne (by omega)]⟩ (c5.bal (hb1 hb))⟩
          · have hg2 : m2.2 0 0 = 2 := by rw [c4, g0, h2]
            unfold f_L_go
            simp only [cl_6, cl_0, cl_10]
            rw [if_pos i11_6, if_pos i11_6, hsm, if_pos i11_0, g0, if_neg h3, if_pos i11_10, if_neg (show ¬ (0 : Int32) < m1.2 0 10 by rw [g10]; exact h24), ek, Option.bind_some]
            dsimp only
            rw [if_pos i11_0, if_neg (show ¬ m1.2 0 0 = 1 by rw [g0]; exact h1), if_pos (show nI 24 = 24 from rfl), c2, Option.bind_some, if_pos i11_0, if_pos i11_0, if_pos i11_1, hg2]
            simp only [sA, cl_0, cl_1, sG_2, sG_sG]
            rfl
          · have q := E_g0 (E_g1 c3 0) (v := 3) (fun _ => by rw [upd_eq, upd_eq])
            rw [upd_comm (show (1 : Nat) ≠ 0 by decide), upd_comm (show (227 : Nat) ≠ 226 by decide)] at q
            exact q
