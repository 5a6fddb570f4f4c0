/-! PURE: the text is read -/
def chT (T : Nat → Int32) (L p : Nat) : Int32 := if p < L then T p else 0
def Txt (T : Nat → Int32) (L : Nat) : Prop := L ≤ 60 ∧ ∀ j, j < L → ∃ c, 32 ≤ c ∧ c ≤ 126 ∧ T j = nI c
def TxC (w : St) (T : Nat → Int32) (L p : Nat) : Prop := w.1 0 = nI L ∧ (∀ j, j < L → w.2 0 j = T j) ∧ w.1 1 = nI p
def TxM (m : St) (T : Nat → Int32) (L p : Nat) : Prop := m.1 3 = nI L ∧ (∀ j, j < L → m.2 5 j = T j) ∧ m.1 4 = nI p
theorem sR_sR (w : St) (r : Nat) (a b : Int32) : sR (sR w r a) r b = sR w r b := by
  unfold sR
  refine Prod.ext ?_ rfl
  funext j
  show (if j = r then b else if j = r then a else w.1 j) = if j = r then b else w.1 j
  by_cases e : j = r
  · rw [if_pos e, if_pos e]
  · rw [if_neg e, if_neg e, if_neg e]
theorem TxC_at {w : St} {T : Nat → Int32} {L p : Nat} (h : TxC w T L p) (q : Nat) : TxC (sR w 1 (nI q)) T L q := ⟨h.1, h.2.1, rfl⟩
theorem TxM_at {m : St} {T : Nat → Int32} {L p : Nat} (h : TxM m T L p) (q : Nat) : TxM (sR m 4 (nI q)) T L q := ⟨h.1, h.2.1, rfl⟩
theorem TxM_told {m : St} {T : Nat → Int32} {L p : Nat} (h : TxM m T L p) (g : Nat → Int32) : TxM (sG m 6 g) T L p := ⟨h.1, h.2.1, h.2.2⟩
theorem ch_not {T : Nat → Int32} {L p : Nat} (h : Txt T L) : chT T L p = 0 ∨ ∃ c, 32 ≤ c ∧ c ≤ 126 ∧ chT T L p = nI c ∧ p < L := by
  unfold chT
  by_cases q : p < L
  · rw [if_pos q]
    obtain ⟨c, a, b, e⟩ := h.2 p q
    exact Or.inr ⟨c, a, b, e, q⟩
  · rw [if_neg q]; exact Or.inl rfl
theorem e_signAt {w : St} {T : Nat → Int32} {L p : Nat} (ht : Txt T L) (h : TxC w T L p) (hp : p ≤ 60) : f_X0_signAt (w.1 1) w = some (chT T L p, w) := by
  unfold f_X0_signAt chT
  rw [h.2.2, h.1, if_neg (nI_pos (by omega))]
  by_cases q : p < L
  · have hL := ht.1
    rw [if_pos ((nI_ltI (by omega) (by omega)).mpr q), if_pos q]
    have h60 : p < 60 := by omega
    simp (disch := omega) only [ltL, h60, if_true, ibN, clN, h.2.1 p q]
  · rw [if_neg (fun z => q ((nI_ltI (by have := ht.1; omega) (by have := ht.1; omega)).mp z)), if_neg q]
theorem e_read {w : St} {T : Nat → Int32} {L p : Nat} (ht : Txt T L) (h : TxC w T L p) (hp : p ≤ 60) (c : Int32) : f_X0_read c w = if chT T L p = c then some (1, sR w 1 (nI (p + 1))) else some (0, w) := by
  unfold f_X0_read
  rw [e_signAt ht h hp]
  simp only [Option.bind_some]
  rw [h.2.2, nI_eq_of]
theorem inI_same (v c : Int32) : inI v c c = if v = c then 1 else 0 := by
  unfold inI
  by_cases e : v = c
  · subst e
    rw [if_neg (show ¬ v < v from Int32.lt_irrefl), if_neg (show ¬ v < v from Int32.lt_irrefl), if_pos rfl]
  · rw [if_neg e]
    by_cases h1 : v < c
    · rw [if_pos h1]
    · rw [if_neg h1, if_pos ?_]
      rw [Int32.lt_iff_toInt_lt] at h1 ⊢
      have : v.toInt ≠ c.toInt := fun q => e (Int32.toInt_inj.mp q)
      omega
theorem e_isAt {m : St} {T : Nat → Int32} {L p : Nat} (ht : Txt T L) (h : TxM m T L p) (hp : p ≤ 60) (lo hi : Int32) : f_X7_isAt lo hi m = some (if p < L then inI (T p) lo hi else 0, m) := by
  unfold f_X7_isAt
  rw [h.2.2, h.1]
  have hL := ht.1
  by_cases q : p < L
  · rw [if_pos ((nI_ltI (by omega) (by omega)).mpr q), if_pos q]
    have h60 : p < 60 := by omega
    simp (disch := omega) only [ibN, clN, h60, if_true, h.2.1 p q, e_in, Option.bind_some]
    have := inI (T p) lo hi
    rcases (show inI (T p) lo hi = 0 ∨ inI (T p) lo hi = 1 by unfold inI; split; exact Or.inl rfl; split; exact Or.inl rfl; exact Or.inr rfl) with z | z
    · rw [z]; rfl
    · rw [z]; rfl
  · rw [if_neg (fun z => q ((nI_ltI (by omega) (by omega)).mp z)), if_neg q]
theorem e_sign {m : St} {T : Nat → Int32} {L p : Nat} (ht : Txt T L) (h : TxM m T L p) (hp : p ≤ 60) {c : Int32} (hc : ¬ c = 0) : f_X7_sign c m = if chT T L p = c then some (1, sR m 4 (nI (p + 1))) else some (0, m) := by
  unfold f_X7_sign
  rw [e_isAt ht h hp]
  simp only [Option.bind_some]
  have key : (if p < L then inI (T p) c c else 0) = if chT T L p = c then 1 else 0 := by
    unfold chT
    by_cases q : p < L
    · rw [if_pos q, if_pos q, inI_same]
    · rw [if_neg q, if_neg q, if_neg (fun e => hc e.symm)]
  rw [key]
  by_cases q : chT T L p = c
  · rw [if_pos q, if_neg (by decide), if_pos (Or.inr rfl), if_pos q, h.2.2, nI_eq_of]
  · rw [if_neg q, if_pos rfl, if_pos (Or.inl rfl), if_neg q, Int32.add_zero, sR_self]
theorem e_isDigit {Wt : Type} (x : Int32) (w : Wt) : f_X0_isDigit x w = some (inI x 48 57, w) := by
  unfold f_X0_isDigit inI
  split
  · rfl
  · split <;> rfl
/-- the loops of a number, from its d-th digit on -/
theorem num_loop {T : Nat → Int32} {L p : Nat} (ht : Txt T L) (hpL : p ≤ L) : ∀ (f d a : Nat), d ≤ 3 → 3 - d < f → p + d ≤ L → a < 10 ^ d → ∃ d' a', d ≤ d' ∧ d' ≤ 3 ∧ p + d' ≤ L ∧ a' < 10 ^ d' ∧
    (∀ n w, 3 - d < n → TxC w T L (p + d) → f_X0_readNumber_L4 n (nI a) (nI d) w = some (nI a', nI d', sR w 1 (nI (p + d')))) ∧
    (∀ n m i, 3 - d < n → i < 3 → TxM m T L (p + d) → m.2 6 i = nI a → f_X7_number_L12 n (nI i) (nI p) m = some (sR (sG m 6 (upd (m.2 6) i (nI a'))) 4 (nI (p + d')))) := by
  have hL := ht.1
  intro f
  induction f with
  | zero => intro d a _ h; omega
  | succ f ih =>
    intro d a hd hf hp ha
    have stopM : ∀ (m : St) (i : Nat), TxM m T L (p + d) → m.2 6 i = nI a → m = sR (sG m 6 (upd (m.2 6) i (nI a))) 4 (nI (p + d)) := by
      intro m i h e
      rw [← e, upd_self, sG_self, ← h.2.2, sR_self]
    have stopC : ∀ (w : St), TxC w T L (p + d) → w = sR w 1 (nI (p + d)) := by
      intro w h
      rw [← h.2.2, sR_self]
    by_cases h3 : d < 3
    · by_cases hD : p + d < L ∧ inI (T (p + d)) 48 57 = 1
      · obtain ⟨c, c1, c2, ec⟩ := ht.2 (p + d) hD.1
        have c48 : 48 ≤ c ∧ c ≤ 57 := by
          have q := hD.2
          rw [ec] at q
          unfold inI at q
          by_cases q1 : nI c < 48
          · rw [if_pos q1] at q; exact absurd q (by decide)
          · rw [if_neg q1] at q
            by_cases q2 : (57 : Int32) < nI c
            · rw [if_pos q2] at q; exact absurd q (by decide)
            · refine ⟨?_, ?_⟩
              · rcases Nat.lt_or_ge c 48 with z | z
                · exact absurd ((ltL (by omega) (by omega)).mpr z) q1
                · exact z
              · rcases Nat.lt_or_ge 57 c with z | z
                · exact absurd ((Llt (by omega) (by omega)).mpr z) q2
                · exact z
        have hpow : 10 ^ d ≤ 100 := by
          have : d = 0 ∨ d = 1 ∨ d = 2 := by omega
          rcases this with rfl | rfl | rfl <;> decide
        have ha' : a * 10 + c - 48 < 10 ^ (d + 1) := by rw [Nat.pow_succ]; omega
        obtain ⟨d', a', b1, b2, b3, b4, b5, b6⟩ := ih (d + 1) (a * 10 + c - 48) (by omega) (by omega) (by omega) ha'
        refine ⟨d', a', by omega, b2, b3, b4, fun n w hn h => ?_, fun n m i hn hi h e => ?_⟩
        · obtain ⟨n, rfl⟩ : ∃ q, n = q + 1 := ⟨n - 1, by omega⟩
          have := b5 n (sR w 1 (nI (p + (d + 1)))) (by omega) (TxC_at h _)
          rw [sR_sR] at this
          rw [f_X0_readNumber_L4, if_pos ((ltL (by omega) (by omega)).mpr h3), e_signAt ht h (by omega)]
          simp only [Option.bind_some, e_isDigit]
          have hch : chT T L (p + d) = nI c := by unfold chT; rw [if_pos hD.1, ec]
          rw [hch, ← ec, hD.2, if_neg (by decide), e_signAt ht h (by omega)]
          simp only [Option.bind_some]
          rw [hch, h.2.2, nI_eq_of, nI_eq_of]
          have ev : (nI a * 10 + nI c) - 48 = nI (a * 10 + c - 48) := by
            rw [mulR, nI_add]
            exact nI_sub (b := 48) (by omega)
          rw [ev]
          exact this
        · obtain ⟨n, rfl⟩ : ∃ q, n = q + 1 := ⟨n - 1, by omega⟩
          have hi3 : ib (nI i) 3 := (ibN (by omega)).mpr hi
          have hi6 : ib (nI (p + d)) 60 := (ibN (by omega)).mpr (by omega)
          have ev : (10 * nI a + nI c) - 48 = nI (a * 10 + c - 48) := by
            rw [mulL, nI_add, Nat.mul_comm]
            exact nI_sub (b := 48) (by omega)
          have := b6 n (sR (sG m 6 (upd (m.2 6) i (nI (a * 10 + c - 48)))) 4 (nI (p + (d + 1)))) i (by omega) hi (TxM_at (TxM_told h _) _) (upd_eq _ _ _)
          rw [f_X7_number_L12, e_isAt ht h (by omega)]
          simp only [Option.bind_some]
          rw [if_pos hD.1, hD.2, if_neg (by decide), h.2.2]
          have hsub : nI (p + d) - nI p = nI d := by
            rw [nI_sub (by omega)]; congr 1; omega
          rw [hsub, if_pos ((ltL (by omega) (by omega)).mpr h3), if_pos hi3, if_pos hi6, if_pos hi3]
          unfold sA
          rw [clN (show i < 2147483648 by omega), clN (show p + d < 2147483648 by omega), e, h.2.1 _ hD.1, ec, ev, nI_eq_of]
          rw [show (sR (sG m 6 (upd (m.2 6) i (nI (a * 10 + c - 48)))) 4 (nI (p + d + 1))) = sR (sG m 6 (upd (m.2 6) i (nI (a * 10 + c - 48)))) 4 (nI (p + (d + 1))) from rfl, this]
          refine congrArg some ?_
          have e1 : sG (sR (sG m 6 (upd (m.2 6) i (nI (a * 10 + c - 48)))) 4 (nI (p + (d + 1)))) 6 (upd ((sR (sG m 6 (upd (m.2 6) i (nI (a * 10 + c - 48)))) 4 (nI (p + (d + 1)))).2 6) i (nI a')) = sR (sG m 6 (upd (m.2 6) i (nI a'))) 4 (nI (p + (d + 1))) := by
            have e2 : (sR (sG m 6 (upd (m.2 6) i (nI (a * 10 + c - 48)))) 4 (nI (p + (d + 1)))).2 6 = upd (m.2 6) i (nI (a * 10 + c - 48)) := show (sG m 6 (upd (m.2 6) i (nI (a * 10 + c - 48)))).2 6 = _ from sG_2 _ _ _
            rw [e2]
            have e3 : upd (upd (m.2 6) i (nI (a * 10 + c - 48))) i (nI a') = upd (m.2 6) i (nI a') := by
              funext j
              by_cases z : j = i
              · rw [z, upd_eq, upd_eq]
              · rw [upd_ne z, upd_ne z, upd_ne z]
            rw [e3]
            show sR (sG (sG m 6 (upd (m.2 6) i (nI (a * 10 + c - 48)))) 6 (upd (m.2 6) i (nI a'))) 4 (nI (p + (d + 1))) = _
            rw [sG_sG]
          rw [e1, sR_sR]
      · refine ⟨d, a, Nat.le_refl d, hd, hp, ha, fun n w hn h => ?_, fun n m i hn hi h e => ?_⟩
        · obtain ⟨n, rfl⟩ : ∃ q, n = q + 1 := ⟨n - 1, by omega⟩
          rw [f_X0_readNumber_L4, if_pos ((ltL (by omega) (by omega)).mpr h3), e_signAt ht h (by omega)]
          simp only [Option.bind_some, e_isDigit]
          have hch : inI (chT T L (p + d)) 48 57 = 0 := by
            unfold chT
            by_cases q : p + d < L
            · rw [if_pos q]
              rcases (show inI (T (p + d)) 48 57 = 0 ∨ inI (T (p + d)) 48 57 = 1 by unfold inI; split; exact Or.inl rfl; split; exact Or.inl rfl; exact Or.inr rfl) with z | z
              · exact z
              · exact absurd ⟨q, z⟩ hD
            · rw [if_neg q]; decide
          rw [hch, if_pos rfl, ← stopC w h]
        · obtain ⟨n, rfl⟩ : ∃ q, n = q + 1 := ⟨n - 1, by omega⟩
          rw [f_X7_number_L12, e_isAt ht h (by omega)]
          simp only [Option.bind_some]
          have hch : (if p + d < L then inI (T (p + d)) 48 57 else 0) = 0 := by
            by_cases q : p + d < L
            · rw [if_pos q]
              rcases (show inI (T (p + d)) 48 57 = 0 ∨ inI (T (p + d)) 48 57 = 1 by unfold inI; split; exact Or.inl rfl; split; exact Or.inl rfl; exact Or.inr rfl) with z | z
              · exact z
              · exact absurd ⟨q, z⟩ hD
            · rw [if_neg q]
          rw [hch, if_pos rfl, ← stopM m i h e]
    · have hd3 : d = 3 := by omega
      subst hd3
      refine ⟨3, a, Nat.le_refl 3, hd, hp, ha, fun n w hn h => ?_, fun n m i hn hi h e => ?_⟩
      · obtain ⟨n, rfl⟩ : ∃ q, n = q + 1 := ⟨n - 1, by omega⟩
        rw [f_X0_readNumber_L4, if_neg (by decide), ← stopC w h]
      · obtain ⟨n, rfl⟩ : ∃ q, n = q + 1 := ⟨n - 1, by omega⟩
        rw [f_X7_number_L12, e_isAt ht h (by omega)]
        simp only [Option.bind_some]
        have hsub : nI (p + 3) - nI p = nI 3 := by
          rw [nI_sub (by omega)]; congr 1; omega
        rw [h.2.2, hsub]
        by_cases hz : (if p + 3 < L then inI (T (p + 3)) 48 57 else 0) = 0
        · rw [if_pos hz, ← stopM m i h e]
        · rw [if_neg hz, if_neg (show ¬ nI 3 < 3 by decide), ← stopM m i h e]
theorem num_sim {T : Nat → Int32} {L p : Nat} (ht : Txt T L) (hpL : p ≤ L) : ∃ d a, p + d ≤ L ∧ a < 1000 ∧
    (∀ w, TxC w T L p → f_X0_readNumber w = some (if d = 0 then -2 else nI a, sR w 1 (nI (p + d)))) ∧
    (∀ m i, i < 3 → TxM m T L p → f_X7_number (nI i) m = some (if d = 0 then 0 else 1, sR (sG m 6 (upd (m.2 6) i (nI a))) 4 (nI (p + d)))) := by
  have hL := ht.1
  obtain ⟨d, a, _, h3, h4, h5, h6, h7⟩ := num_loop ht hpL 4 0 0 (by omega) (by omega) (by omega) (by decide)
  refine ⟨d, a, h4, ?_, fun w h => ?_, fun m i hi h => ?_⟩
  · have : d = 0 ∨ d = 1 ∨ d = 2 ∨ d = 3 := by omega
    rcases this with rfl | rfl | rfl | rfl <;> omega
  · unfold f_X0_readNumber
    rw [show f_X0_readNumber_L4 BIG 0 0 w = _ from h6 BIG w (by unfold BIG; omega) h]
    simp only [Option.bind_some]
    by_cases z : d = 0
    · subst z; rfl
    · rw [if_pos (show (0 : Int32) < nI d from (nI_ltI (a := 0) (by omega) (by omega)).mpr (by omega)), if_neg z]
  · unfold f_X7_number
    have hi3 : ib (nI i) 3 := (ibN (by omega)).mpr hi
    have := h7 BIG (sG m 6 (upd (m.2 6) i 0)) i (by unfold BIG; omega) hi (TxM_told h _) (upd_eq _ _ _)
    rw [sG_2, sG_sG] at this
    rw [if_pos hi3]
    unfold sA
    rw [clN (show i < 2147483648 by omega), h.2.2]
    have e3 : upd (upd (m.2 6) i 0) i (nI a) = upd (m.2 6) i (nI a) := by
      funext j
      by_cases z : j = i
      · rw [z, upd_eq, upd_eq]
      · rw [upd_ne z, upd_ne z, upd_ne z]
    rw [e3] at this
    rw [this, Option.bind_some]
    have hr : (sR (sG m 6 (upd (m.2 6) i (nI a))) 4 (nI (p + d))).1 4 = nI (p + d) := rfl
    rw [hr]
    by_cases z : d = 0
    · subst z
      rw [if_neg (fun q => by have := (nI_ltI (by omega) (by omega)).mp q; omega), if_pos rfl]
    · rw [if_pos ((nI_ltI (by omega) (by omega)).mpr (by omega)), if_neg z]
