/-! PURE: a wish goes off or on; one is added to the list; what wants to be finished -/
theorem want_off {w : St} {s : Nat → Int32} {B : Nat} {ex rw li : List Nat} (h : SimB w s B ex rw li) {k : Nat} (hk : k < 24) : SimB (sR w 14 (w.1 14 &&& (bI (nI k) ^^^ (-1)))) (upd s (7 * k + 4) 0) B ex rw li := by
  obtain ⟨hA, hP, hF, hW, hCo, hE, hRw, hG, hLi, hO, hR, hH, hN, hI⟩ := h
  obtain ⟨a1, a2, a3, a4, a5, a6, a7, a8⟩ := hA
  have hW' : gW (w.1 13) (w.1 14 &&& (bI (nI k) ^^^ (-1))) (upd s (7 * k + 4) 0) := by
    intro j hj hp
    by_cases e : j = k
    · subst e
      rw [upd_eq]
      cases z : tb (w.1 14 &&& (bI (nI j) ^^^ (-1))) j
      · rfl
      · exact absurd rfl ((tb_sub hk j).mp z).2
    · have z : tb (w.1 14 &&& (bI (nI k) ^^^ (-1))) j = tb (w.1 14) j := bool_eq_iff ((tb_sub hk j).trans ⟨fun q => q.1, fun q => ⟨q, e⟩⟩)
      rw [upd_ne (by omega), z]
      exact hW j hj hp
  refine ⟨⟨a1, S24_and a2, a3, a4, fun j q => a5 j ((tb_sub hk j).mp q).1, a6, a7, a8⟩, gP_s (fun j hj => ?_) hP, gF_s (fun j f hj hf => ?_) hF, hW', gCo_s (fun j hj => ?_) hCo, gE_s (fun j hj => ?_) hE, gL_s (fun j hj => ?_) hRw, hG, gL_s (fun j hj => ?_) hLi, hO, gR_s (fun j hj => ?_) hR, gR_s (fun j hj => ?_) hH, gNu_s (fun j h1 h2 => ?_) hN, hI⟩ <;> simp (disch := omega) only [upd_ne]
theorem want_on {w : St} {s : Nat → Int32} {B : Nat} {ex rw li : List Nat} (h : SimB w s B ex rw li) {k : Nat} (hk : k < 24) (hp : tb (w.1 13) k = true) : SimB (sR w 14 (w.1 14 ||| bI (nI k))) (upd s (7 * k + 4) 1) B ex rw li := by
  obtain ⟨hA, hP, hF, hW, hCo, hE, hRw, hG, hLi, hO, hR, hH, hN, hI⟩ := h
  obtain ⟨a1, a2, a3, a4, a5, a6, a7, a8⟩ := hA
  have hW' : gW (w.1 13) (w.1 14 ||| bI (nI k)) (upd s (7 * k + 4) 1) := by
    intro j hj hp
    by_cases e : j = k
    · subst e
      rw [upd_eq, (tb_add hk j).mpr (Or.inr rfl), if_pos rfl]
    · have z : tb (w.1 14 ||| bI (nI k)) j = tb (w.1 14) j := bool_eq_iff ((tb_add hk j).trans ⟨fun q => q.elim id (fun z => absurd z e), Or.inl⟩)
      rw [upd_ne (by omega), z]
      exact hW j hj hp
  refine ⟨⟨a1, S24_or a2 (S24_bI _), a3, a4, fun j q => ((tb_add hk j).mp q).elim (a5 j) (fun e => e ▸ hp), a6, a7, a8⟩, gP_s (fun j hj => ?_) hP, gF_s (fun j f hj hf => ?_) hF, hW', gCo_s (fun j hj => ?_) hCo, gE_s (fun j hj => ?_) hE, gL_s (fun j hj => ?_) hRw, hG, gL_s (fun j hj => ?_) hLi, hO, gR_s (fun j hj => ?_) hR, gR_s (fun j hj => ?_) hH, gNu_s (fun j h1 h2 => ?_) hN, hI⟩ <;> simp (disch := omega) only [upd_ne]
def adS (s : Nat → Int32) (k n : Nat) : Nat → Int32 := upd (upd s 193 (nI (n + 1))) (194 + n) (nI k)
theorem list_add {w : St} {s : Nat → Int32} {B : Nat} {ex rw li : List Nat} (h : SimB w s B ex rw li) {k : Nat} (hk : k < 24) (hp : tb (w.1 13) k = true) (hn : k ∉ li) : li.length < 24 ∧ SimB (sR (sG w 4 (upd (w.2 4) li.length (nI k))) 23 (nI (li.length + 1))) (adS s k li.length) B ex rw (li ++ [k]) := by
  obtain ⟨hA, hP, hF, hW, hCo, hE, hRw, hG, hLi, hO, hR, hH, hN, hI⟩ := h
  have hlt : li.length < 24 := nodup_lt hO.1 (fun x hx => tb_lt hA.1 (hO.2 x hx)) hk hn
  obtain ⟨⟨l1, l2, l3⟩, l4, l5⟩ := hLi
  have hLi' : gL (nI (li.length + 1)) (upd (w.2 4) li.length (nI k)) (li ++ [k]) (adS s k li.length) 193 := by
    have hx : ∀ j (h : j < (li ++ [k]).length), upd (w.2 4) li.length (nI k) j = nI (li ++ [k])[j] ∧ (li ++ [k])[j] < 24 := by
      intro j hj
      rw [List.length_append, List.length_singleton] at hj
      by_cases e : j = li.length
      · subst e
        rw [upd_eq, List.getElem_concat_length rfl]
        exact ⟨rfl, hk⟩
      · have hj2 : j < li.length := by omega
        rw [upd_ne e, List.getElem_append_left hj2]
        exact l3 j hj2
    refine ⟨⟨by rw [List.length_append, List.length_singleton], by rw [List.length_append, List.length_singleton]; omega, hx⟩, ?_, fun j hj => ?_⟩
    · unfold adS
      rw [upd_ne (by omega), upd_eq]
    · rw [List.length_append, List.length_singleton] at hj
      unfold adS
      by_cases e : j = li.length
      · subst e
        rw [show 193 + 1 + li.length = 194 + li.length by omega, upd_eq, upd_eq]
      · rw [upd_ne e, upd_ne (by omega), upd_ne (by omega)]
        exact l5 j (by omega)
  refine ⟨hlt, hA, gP_s (fun j hj => ?_) hP, gF_s (fun j f hj hf => ?_) hF, gW_s (fun j hj => ?_) hW, gCo_s (fun j hj => ?_) hCo, gE_s (fun j hj => ?_) hE, gL_s (fun j hj => ?_) hRw, hG, hLi', ⟨?_, ?_⟩, gR_s (fun j hj => ?_) hR, gR_s (fun j hj => ?_) hH, gNu_s (fun j h1 h2 => ?_) hN, hI⟩
  · unfold adS; simp (disch := omega) only [upd_ne]
  · unfold adS; simp (disch := omega) only [upd_ne]
  · unfold adS; simp (disch := omega) only [upd_ne]
  · unfold adS; simp (disch := omega) only [upd_ne]
  · unfold adS; simp (disch := omega) only [upd_ne]
  · unfold adS; simp (disch := omega) only [upd_ne]
  · rw [List.nodup_append]
    exact ⟨hO.1, by simp, fun a ha b hb e => hn (by rw [List.mem_singleton] at hb; rw [← hb, ← e]; exact ha)⟩
  · intro x hx
    rcases List.mem_append.mp hx with q | q
    · exact hO.2 x q
    · rw [List.mem_singleton.mp q]; exact hp
  · unfold adS; simp (disch := omega) only [upd_ne]
  · unfold adS; simp (disch := omega) only [upd_ne]
  · unfold adS; simp (disch := omega) only [upd_ne]
def sf (w w' : St) : Prop := (∀ r, r < 10 → w'.1 r = w.1 r) ∧ w'.2 0 = w.2 0
theorem sf.rf (w : St) : sf w w := ⟨fun _ _ => rfl, rfl⟩
theorem sf.tr {a b c : St} (h : sf a b) (k : sf b c) : sf a c := ⟨fun r hr => (k.1 r hr).trans (h.1 r hr), k.2.trans h.2⟩
theorem g_none {w : St} {s : Nat → Int32} {B : Nat} {li : List Nat} (h : SimB w s B [] [] li) : w.1 16 = 0 := by
  refine S24_ext h.1.2.2.1 S24_0 (fun k _ => ?_)
  rw [tb_0]
  cases z : tb (w.1 16) k
  · rfl
  · have := (h.2.2.2.2.2.2.2.1.2 k).mpr z
    cases this
theorem rootS_R {R : Nat → Int32} {k : Nat} (h : rootS R k) : rootS R k := h
theorem find_none {w m : St} {B : Nat} {li : List Nat} (h : SimB w (m.2 0) B [] [] li) (hc : gM (w.1 10) (w.1 16) (w.1 17) (w.2 1) (w.2 2) li) (hn : ∀ j, j < 24 → tb (whI w.1 &&& w.1 14) j = false) :
    ∃ w' s', f_X4_findToFinish w = some (0, w') ∧ f_X7_looksForFinish m = some (0, sG m 0 s') ∧ SimL w' s' B [] li ∧ w'.1 15 = 3 ∧ w'.1 18 = 0 ∧ (∀ r, r ≠ 15 → r ≠ 18 → w'.1 r = w.1 r) ∧ w'.2 0 = w.2 0 := by
  obtain ⟨H', s', e1, e2, hS, hr⟩ := clears_sim h
  obtain ⟨r, e3, hL⟩ := e_low0 (whI w.1 &&& w.1 14) w
  have hr1 : r = -1 := by
    rcases hL with ⟨k, _, h2, h3, _⟩ | ⟨a, _⟩
    · rw [hn k h2] at h3; cases h3
    · exact a
  subst hr1
  obtain ⟨r2, e4, h2⟩ := look_loop h BIG 23 (-1) (by omega) (by unfold BIG; omega)
  have hr2 : r2 = -1 := by
    rcases h2 with ⟨k, h1, h2, _⟩ | ⟨a, _⟩
    · rw [hn k (by omega)] at h2; cases h2
    · exact a
  subst hr2
  have hg := g_none h
  have hS2 := set_18 (set_15 hS 3 (by simp)) 0 ⟨0, by omega, rfl⟩
  refine ⟨sR (sR (sG w 3 H') 15 3) 18 0, upd (upd s' 226 3) 227 0, ?_, ?_, ⟨hS2, ?_⟩, rfl, rfl, fun r a b => ?_, rfl⟩
  · unfold f_X4_findToFinish
    simp only [e_white, Option.bind_some, e3, if_true, e1]
  · unfold f_X7_looksForFinish
    rw [show f_X7_looksForFinish_L5 BIG (-1) 23 m = some (-1, m) from e4]
    simp only [Option.bind_some]
    rw [if_pos (by decide), e2]
    simp only [Option.bind_some, sA, c226, c227, sG_2, sG_sG]
    rw [if_pos ib226, if_pos ib227]
  · refine ⟨fun q => absurd (show (3 : Int32) = 0 from q) (by decide), fun q => absurd (show (3 : Int32) = 1 ∨ (3 : Int32) = 2 from q) (by decide), fun _ f hf hfr => ?_⟩
    have hf0 : f = 0 := by
      have : nI 0 = nI f := hfr
      exact (nI_inj (by omega) (by omega) this).symm
    subst hf0
    have kb : ∀ k, nw (w.1 16) (w.1 17) k → kept (w.1 17) 0 k := by
      intro k q
      rcases q with q | q
      · rw [hg, tb_0] at q; cases q
      · exact Or.inr q
    have ks : ∀ k, safe (w.1 10) (w.1 16) (w.1 17) (w.2 1) k → kept (w.1 17) 0 k := by
      intro k q
      rw [hg] at q
      exact Or.inr (safe_none q)
    refine ⟨hg, fun k _ => Nat.zero_le k, fun k hk => kb k (hc.1 k hk), fun k hk q => ks k (hc.2.1 k hk q), fun k hk q => kb k (hr k hk q).2, fun k j hk hj hp hkk he => ?_⟩
    rcases hkk with q | q
    · omega
    · exact ks j (hc.2.2 k j hk hj q he)
  · show (if r = 18 then _ else if r = 15 then _ else w.1 r) = w.1 r
    rw [if_neg b, if_neg a]
theorem find_some {w m : St} {B : Nat} {li : List Nat} (h : SimB w (m.2 0) B [] [] li) (hc : gM (w.1 10) (w.1 16) (w.1 17) (w.2 1) (w.2 2) li) {k : Nat} (hk : k < 24) (hk1 : tb (whI w.1 &&& w.1 14) k = true) (hk2 : ∀ j, j < k → tb (whI w.1 &&& w.1 14) j = false) :
    ∃ w' s' rw', f_X4_findToFinish w = some (0, w') ∧ f_X7_looksForFinish m = some (0, sG m 0 s') ∧ SimB w' s' B [] rw' (li ++ [k]) ∧ gM (w'.1 10) (w'.1 16) (w'.1 17) (w'.2 1) (w'.2 2) (li ++ [k]) ∧ w'.1 14 = w.1 14 &&& (bI (nI k) ^^^ (-1)) ∧ tb (w.1 14) k = true ∧ (∀ r, r ≠ 14 → r ≠ 16 → r ≠ 23 → r ≠ 24 → w'.1 r = w.1 r) ∧ w'.2 0 = w.2 0 := by
  have hkk := hk1
  rw [tb_and, Bool.and_eq_true, tb_wh w.1 (by omega)] at hkk
  obtain ⟨⟨hp, hw⟩, hwt⟩ := hkk
  obtain ⟨r, e3, hL⟩ := e_low0 (whI w.1 &&& w.1 14) w
  have hr1 : r = nI k := by
    rcases hL with ⟨k', _, h2, h3, h4, h5⟩ | ⟨a, b⟩
    · rcases Nat.lt_trichotomy k' k with q | q | q
      · rw [hk2 k' q] at h3; cases h3
      · rw [h5, q]
      · rw [h4 k (Nat.zero_le _) q] at hk1; cases hk1
    · rw [b k (Nat.zero_le _) hk] at hk1; cases hk1
  subst hr1
  obtain ⟨r2, e4, h2⟩ := look_loop h BIG 23 (-1) (by omega) (by unfold BIG; omega)
  have hr2 : r2 = nI k := by
    rcases h2 with ⟨k', h1, h2, h3, h4⟩ | ⟨a, b⟩
    · rcases Nat.lt_trichotomy k' k with q | q | q
      · rw [hk2 k' q] at h2; cases h2
      · rw [h4, q]
      · rw [h3 k q] at hk1; cases hk1
    · rw [b k (by omega)] at hk1; cases hk1
  subst hr2
  have hnl : k ∉ li := fun q => hw (hc.1 k q)
  have hS1 := want_off h hk
  obtain ⟨hlt, hS2⟩ := list_add hS1 hk hp hnl
  have hm2 : (sG m 0 (adS (upd (m.2 0) (7 * k + 4) 0) k li.length)).2 0 = adS (upd (m.2 0) (7 * k + 4) 0) k li.length := sG_2 _ _ _
  rw [← hm2] at hS2
  obtain ⟨w', s', rw', e5, e6, hS3, hsh, hX⟩ := shade_sim hS2 (x := nI k) (Or.inr ⟨k, hk, rfl, hp⟩)
  rw [sG_sG] at e6
  have hn0 : ¬ nI k < 0 := nI_pos (by omega)
  have hnm : ¬ nI k = -1 := nI_ne_m1 (by omega)
  have hl0 : w.1 23 = nI li.length := h.2.2.2.2.2.2.2.2.1.1.1
  have hs0 : m.2 0 193 = nI li.length := (h.2.2.2.2.2.2.2.2.1.2.1).trans hl0
  have h193 : ib 193 235 := by decide
  have c193 : (193 : Int32).toNatClampNeg = 193 := by decide
  refine ⟨w', s', rw', ?_, ?_, hS3, ?_, ?_, hwt, fun r a b c d => ?_, hX.2 0 (by decide)⟩
  · unfold f_X4_findToFinish
    simp only [e_white, Option.bind_some, e3, hnm, if_false, e_bit]
    rw [e_append5 (n := li.length) hlt (by exact hl0)]
    simp only [Option.bind_some]
    rw [show f_X4_shade (nI k) (sR (sG (sR w 14 (w.1 14 &&& (bI (nI k) ^^^ (-1)))) 4 (upd ((sR w 14 (w.1 14 &&& (bI (nI k) ^^^ (-1)))).2 4) li.length (nI k))) 23 (nI (li.length + 1))) = some (0, w') from e5]
    rfl
  · unfold f_X7_looksForFinish
    rw [show f_X7_looksForFinish_L5 BIG (-1) 23 m = some (nI k, m) from e4]
    simp only [Option.bind_some]
    rw [if_neg hn0, show f_X7_sets (nI k) 4 0 m = some (0, sG m 0 (upd (m.2 0) (7 * k + 4) 0)) from e_sets (j := 4) (by omega) 0]
    have q1 : upd (m.2 0) (7 * k + 4) 0 193 = nI li.length := by rw [upd_ne (by omega)]; exact hs0
    have h235 : 193 + (li.length + 1) < 235 := by omega
    simp (disch := omega) only [Option.bind_some, h193, if_true, sA, c193, sG_2, sG_sG, q1, addR, upd_eq, addL, ibN, clN, h235]
    have e7 : f_X7_shades (nI k) (sG m 0 (upd (upd (upd (m.2 0) (7 * k + 4) 0) 193 (nI (li.length + 1))) (193 + (li.length + 1)) (nI k))) = some (0, sG m 0 s') := by
      rw [show 193 + (li.length + 1) = 194 + li.length by omega]
      exact e6
    rw [e7]
    rfl
  · have g' : ∀ j, tb (w.1 16) j = true → tb (w'.1 16) j = true := fun j q => (hsh j).mpr (Or.inl q)
    have hb : w'.1 17 = w.1 17 := hX.1 17 (by decide) (by decide)
    have hc0 : w'.1 10 = w.1 10 := hX.1 10 (by decide) (by decide)
    have hF : w'.2 1 = w.2 1 := hX.2 1 (by decide)
    have hR : w'.2 2 = w.2 2 := hX.2 2 (by decide)
    rw [hb, hc0, hF, hR]
    have := gM_g g' hc
    refine ⟨fun x hx => ?_, this.2.1, this.2.2⟩
    rcases List.mem_append.mp hx with q | q
    · exact this.1 x q
    · rw [List.mem_singleton.mp q]
      exact shade_nw (b := w.1 17) hsh hk rfl
  · exact hX.1 14 (by decide) (by decide)
  · rw [hX.1 r b d]
    show (if r = 23 then _ else if r = 14 then _ else w.1 r) = w.1 r
    rw [if_neg c, if_neg a]
