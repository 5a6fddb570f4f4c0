/-! PURE: shading -/
theorem upd_eq (s : Nat → Int32) (i : Nat) (v : Int32) : upd s i v i = v := if_pos rfl
theorem upd_ne {s : Nat → Int32} {i j : Nat} {v : Int32} (h : j ≠ i) : upd s i v j = s j := if_neg h
theorem sG_2 (m : St) (a : Nat) (g : Nat → Int32) : (sG m a g).2 a = g := by
  show (if a = a then g else m.2 a) = g
  exact if_pos rfl
theorem sG_sG (m : St) (a : Nat) (g h : Nat → Int32) : sG (sG m a g) a h = sG m a h := by
  unfold sG
  refine Prod.ext rfl ?_
  funext b
  show (if b = a then h else if b = a then g else m.2 b) = if b = a then h else m.2 b
  split <;> rfl
theorem sG_self (m : St) (a : Nat) : sG m a (m.2 a) = m := by
  unfold sG
  refine Prod.ext rfl ?_
  funext b
  show (if b = a then m.2 a else m.2 b) = m.2 b
  split
  · next h => rw [h]
  · rfl
theorem gP_s {p : Int32} {s s' : Nat → Int32} (h : ∀ k, k < 24 → s' (7 * k) = s (7 * k)) (g : gP p s) : gP p s' := fun k hk => (h k hk).trans (g k hk)
theorem gF_s {p : Int32} {F s s' : Nat → Int32} (h : ∀ k f, k < 24 → f < 3 → s' (7 * k + (1 + f)) = s (7 * k + (1 + f))) (g : gF p F s) : gF p F s' := fun k f hk hf => ⟨(g k f hk hf).1, fun q => (h k f hk hf).trans ((g k f hk hf).2.1 q), (g k f hk hf).2.2⟩
theorem gW_s {p wn : Int32} {s s' : Nat → Int32} (h : ∀ k, k < 24 → s' (7 * k + 4) = s (7 * k + 4)) (g : gW p wn s) : gW p wn s' := fun k hk q => (h k hk).trans (g k hk q)
theorem gCo_s {p gr b : Int32} {s s' : Nat → Int32} (h : ∀ k, k < 24 → s' (7 * k + 5) = s (7 * k + 5)) (g : gCo p gr b s) : gCo p gr b s' := fun k hk q => (h k hk).trans (g k hk q)
theorem gE_s {p n : Int32} {bb s s' : Nat → Int32} (h : ∀ k, k < 24 → s' (7 * k + 6) = s (7 * k + 6)) (g : gE p n bb s) : gE p n bb s' := fun k hk q => (h k hk).trans (g k hk q)
theorem gL_s {n : Int32} {v : Nat → Int32} {l : List Nat} {s s' : Nat → Int32} {base : Nat} (h : ∀ j, j < 25 → s' (base + j) = s (base + j)) (g : gL n v l s base) : gL n v l s' base :=
  ⟨g.1, (h 0 (by omega)).trans g.2.1, fun j hj => by
    have h1 := h (1 + j) (by have := g.1.2.1; omega)
    rw [← Nat.add_assoc] at h1
    exact h1.trans (g.2.2 j hj)⟩
theorem gR_s {p : Int32} {R s s' : Nat → Int32} {base : Nat} (h : ∀ j, j < 4 → s' (base + j) = s (base + j)) (g : gR p R s base) : gR p R s' base := fun j hj => ⟨(g j hj).1, (h j hj).trans (g j hj).2⟩
theorem gNu_s {w s s' : Nat → Int32} (h : ∀ i, 226 ≤ i → i < 235 → s' i = s i) (g : gNu w s) : gNu w s' := by
  obtain ⟨a, b, c, d, e, f, i, j, k⟩ := g
  exact ⟨(h _ (by omega) (by omega)).trans a, (h _ (by omega) (by omega)).trans b, (h _ (by omega) (by omega)).trans c, (h _ (by omega) (by omega)).trans d, (h _ (by omega) (by omega)).trans e, (h _ (by omega) (by omega)).trans f, (h _ (by omega) (by omega)).trans i, (h _ (by omega) (by omega)).trans j, (h _ (by omega) (by omega)).trans k⟩
theorem nodup_len {l : List Nat} {n : Nat} (hn : l.Nodup) (h : ∀ k ∈ l, k < n) : l.length ≤ n := by
  have key : l.length ≤ cnt (fun k => decide (k ∈ l)) n := by
    induction l with
    | nil => exact Nat.zero_le _
    | cons a t ih =>
      rw [List.nodup_cons] at hn
      have h1 := ih hn.2 (fun k hk => h k (List.mem_cons_of_mem _ hk))
      have h2 : cnt (fun k => decide (k ∈ t)) n < cnt (fun k => decide (k ∈ a :: t)) n := by
        refine cnt_lt (k := a) (fun k _ q => ?_) (h a List.mem_cons_self) (decide_eq_false hn.1) (decide_eq_true List.mem_cons_self)
        exact decide_eq_true (List.mem_cons_of_mem _ (of_decide_eq_true q))
      rw [List.length_cons]
      omega
  exact Nat.le_trans key (cnt_le _ _)
theorem nodup_lt {l : List Nat} {n a : Nat} (hn : l.Nodup) (h : ∀ k ∈ l, k < n) (ha : a < n) (h2 : a ∉ l) : l.length < n := by
  have := nodup_len (l := a :: l) (n := n) (List.nodup_cons.mpr ⟨h2, hn⟩) (fun k hk => (List.mem_cons.mp hk).elim (fun e => e ▸ ha) (h k))
  rw [List.length_cons] at this
  omega
theorem e_sets {k j : Nat} {m : St} (h : 7 * k + j < 235) (v : Int32) : f_X7_sets (nI k) (nI j) v m = some (0, sG m 0 (upd (m.2 0) (7 * k + j) v)) := by
  have h2 : nI 7 * nI k + nI j = nI (7 * k + j) := by rw [nI_mul, nI_add]
  unfold f_X7_sets sA
  rw [show ((7 : Int32) * nI k + nI j) = nI (7 * k + j) from h2, if_pos ((ibN (by omega)).mpr h), nI_clamp (by omega)]
theorem ib168 : ib 168 235 := by decide
theorem c168 : (168 : Int32).toNatClampNeg = 168 := by decide
def shS (s : Nat → Int32) (k n : Nat) : Nat → Int32 := upd (upd (upd s (7 * k + 5) 1) 168 (nI (n + 1))) (169 + n) (nI k)
theorem e_shades_w {k n : Nat} {m : St} (hk : k < 24) (h0 : m.2 0 (7 * k + 5) = 0) (h1 : m.2 0 168 = nI n) (hn : n < 24) : f_X7_shades (nI k) m = some (0, sG m 0 (shS (m.2 0) k n)) := by
  have h235 : 169 + n < 235 := by omega
  have e1 : (upd (m.2 0) (7 * k + 5) 1) 168 = nI n := by rw [upd_ne (by omega)]; exact h1
  have e2 : (upd (upd (m.2 0) (7 * k + 5) 1) 168 (nI (n + 1))) 168 = nI (n + 1) := upd_eq _ _ _
  have e3 : ib (168 + nI (n + 1)) 235 := by rw [addL]; exact (ibN (by omega)).mpr (by omega)
  have e4 : (168 + nI (n + 1)).toNatClampNeg = 169 + n := by rw [addL, clN (by omega)]; omega
  unfold f_X7_shades
  rw [if_neg (nI_pos (by omega)), e_of5 hk]
  simp only [Option.bind_some, h0, if_true, show f_X7_sets (nI k) 5 1 m = some (0, sG m 0 (upd (m.2 0) (7 * k + 5) 1)) from e_sets (j := 5) (by omega) 1, sA, sG_2, sG_sG, c168, e1, addR, e2, e4]
  rw [if_pos ib168, if_pos ib168, if_pos ib168, if_pos e3]
  rfl
theorem e_shades_n {k : Nat} {m : St} (hk : k < 24) (h0 : ¬ m.2 0 (7 * k + 5) = 0) : f_X7_shades (nI k) m = some (0, m) := by
  unfold f_X7_shades
  rw [if_neg (nI_pos (by omega)), e_of5 hk]
  simp only [Option.bind_some, h0, if_false]
theorem e_shades_m1 (m : St) : f_X7_shades (-1) m = some (0, m) := by
  unfold f_X7_shades
  rw [if_pos (by decide)]
def shadeRel (x g b g' : Int32) : Prop := ∀ j, tb g' j = true ↔ (tb g j = true ∨ (x = nI j ∧ j < 24 ∧ tb b j = false))
def sameX (w w' : St) : Prop := (∀ r, r ≠ 16 → r ≠ 24 → w'.1 r = w.1 r) ∧ ∀ a, a ≠ 5 → w'.2 a = w.2 a
theorem sameX.rf (w : St) : sameX w w := ⟨fun _ _ _ => rfl, fun _ _ => rfl⟩
theorem sameX.tr {a b c : St} (h : sameX a b) (k : sameX b c) : sameX a c := ⟨fun r h1 h2 => (k.1 r h1 h2).trans (h.1 r h1 h2), fun x hx => (k.2 x hx).trans (h.2 x hx)⟩
theorem shade_sim {w m : St} {B : Nat} {ex rw li : List Nat} (h : SimB w (m.2 0) B ex rw li) {x : Int32} (hx : okr (w.1 13) x) :
    ∃ w' s' rw', f_X4_shade x w = some (0, w') ∧ f_X7_shades x m = some (0, sG m 0 s') ∧ SimB w' s' B ex rw' li ∧ shadeRel x (w.1 16) (w.1 17) (w'.1 16) ∧ sameX w w' := by
  rcases hx with rfl | ⟨k, hk, rfl, hp⟩
  · refine ⟨w, m.2 0, rw, ?_, by rw [sG_self]; exact e_shades_m1 m, h, fun j => ⟨Or.inl, fun q => q.elim id (fun ⟨a, b, _⟩ => absurd a.symm (nI_ne_m1 (by omega)))⟩, sameX.rf w⟩
    unfold f_X4_shade
    simp only [e_bit, bI_m1, Option.bind_some, if_true]
  · have hbz : ¬ bI (nI k) = 0 := fun q => by
      have := tb_bI hk k
      rw [q, tb_0] at this
      simp at this
    obtain ⟨hA, hP, hF, hW, hCo, hE, hRw, hG, hLi, hO, hR, hH, hN, hI⟩ := h
    have hcol := hCo k hk hp
    by_cases hw : nw (w.1 16) (w.1 17) k
    · have hne : ¬ m.2 0 (7 * k + 5) = 0 := by
        rw [hcol]
        rcases hw with q | q
        · rw [hA.2.2.2.2.2.2.2 k q, q]; decide
        · rw [q, if_pos rfl]; decide
      refine ⟨w, m.2 0, rw, ?_, by rw [sG_self]; exact e_shades_n hk hne, ⟨hA, hP, hF, hW, hCo, hE, hRw, hG, hLi, hO, hR, hH, hN, hI⟩, fun j => ⟨Or.inl, fun q => q.elim id (fun ⟨a, b, c⟩ => ?_)⟩, sameX.rf w⟩
      · have hz : ¬ (w.1 16 ||| w.1 17) &&& bI (nI k) = 0 := fun q => by
          have := (and_bI hk).mp q
          rw [tb_or] at this
          rcases hw with z | z <;> rw [z] at this <;> simp at this
        unfold f_X4_shade
        simp only [e_bit, Option.bind_some, hbz, hz, if_false]
      · have := nI_inj (by omega) (by omega) a
        subst this
        rcases hw with z | z
        · exact z
        · rw [z] at c; cases c
    · have hg0 : tb (w.1 16) k = false := by
        cases q : tb (w.1 16) k
        · rfl
        · exact absurd (Or.inl q) hw
      have hb0 : tb (w.1 17) k = false := by
        cases q : tb (w.1 17) k
        · rfl
        · exact absurd (Or.inr q) hw
      have h0 : m.2 0 (7 * k + 5) = 0 := by rw [hcol, hb0, hg0]; rfl
      have hkr : k ∉ ex ++ rw := fun q => by rw [(hG.2 k).mp q] at hg0; cases hg0
      have hn0 : (ex ++ rw).length < 24 := nodup_lt hG.1 (fun j hj => tb_lt hA.2.2.1 ((hG.2 j).mp hj)) hk hkr
      have hn : rw.length < 24 := by rw [List.length_append] at hn0; omega
      have hlen : w.1 24 = nI rw.length := hRw.1.1
      have tg : ∀ j, tb (w.1 16 ||| bI (nI k)) j = true ↔ tb (w.1 16) j = true ∨ j = k := by
        intro j
        rw [tb_or, tb_bI hk, Bool.or_eq_true, decide_eq_true_iff]
      refine ⟨sR (sG (sR w 16 (w.1 16 ||| bI (nI k))) 5 (upd (w.2 5) rw.length (nI k))) 24 (nI (rw.length + 1)), shS (m.2 0) k rw.length, rw ++ [k], ?_, e_shades_w hk h0 (hRw.2.1.trans hlen) hn, ?_, ?_, ?_⟩
      · have hz : (w.1 16 ||| w.1 17) &&& bI (nI k) = 0 := (and_bI hk).mpr (by rw [tb_or, hg0, hb0]; rfl)
        unfold f_X4_shade
        simp only [e_bit, Option.bind_some, hbz, hz, if_false, if_true]
        rw [e_append6 (n := rw.length) (w := sR w 16 (w.1 16 ||| bI (nI k))) hn hlen]
        rfl
      · obtain ⟨a1, a2, a3, a4, a5, a6, a7, a8⟩ := hA
        refine ⟨⟨a1, a2, S24_or a3 (S24_bI _), a4, a5, fun j q => ((tg j).mp q).elim (a6 j) (fun e => e ▸ hp), a7, fun j q => ((tg j).mp q).elim (a8 j) (fun e => e ▸ hb0)⟩, gP_s (fun j hj => ?_) hP, gF_s (fun j f hj hf => ?_) hF, gW_s (fun j hj => ?_) hW, fun j hj hpj => ?_, gE_s (fun j hj => ?_) hE, ⟨⟨by rw [List.length_append]; rfl, by rw [List.length_append]; exact hn, fun j hj => ?_⟩, ?_, fun j hj => ?_⟩, ⟨?_, fun j => ?_⟩, gL_s (fun j hj => ?_) hLi, hO, gR_s (fun j hj => ?_) hR, gR_s (fun j hj => ?_) hH, gNu_s (fun j h1 h2 => ?_) hN, hI⟩
        · unfold shS; simp (disch := omega) only [upd_ne]
        · unfold shS; simp (disch := omega) only [upd_ne]
        · unfold shS; simp (disch := omega) only [upd_ne]
        · show shS (m.2 0) k rw.length (7 * j + 5) = if tb (w.1 17) j then 2 else if tb (w.1 16 ||| bI (nI k)) j then 1 else 0
          by_cases e : j = k
          · subst e
            rw [hb0, (tg j).mpr (Or.inr rfl)]
            unfold shS
            rw [upd_ne (by omega), upd_ne (by omega), upd_eq]
            rfl
          · have h1 : tb (w.1 16 ||| bI (nI k)) j = tb (w.1 16) j := by
              rw [tb_or, tb_bI hk, decide_eq_false e, Bool.or_false]
            rw [h1, ← hCo j hj hpj]
            unfold shS; simp (disch := omega) only [upd_ne]
        · unfold shS; simp (disch := omega) only [upd_ne]
        · rw [List.length_append] at hj
          have hj : j < rw.length + 1 := hj
          show upd (w.2 5) rw.length (nI k) j = _ ∧ _
          by_cases e : j < rw.length
          · rw [upd_ne (by omega), List.getElem_append_left e]
            exact hRw.1.2.2 j e
          · have : j = rw.length := by omega
            subst this
            rw [upd_eq, List.getElem_append_right (Nat.le_refl _)]
            simp [hk]
        · show shS (m.2 0) k rw.length 168 = nI (rw.length + 1)
          unfold shS
          rw [upd_ne (by omega), upd_eq]
        · rw [List.length_append] at hj
          have hj : j < rw.length + 1 := hj
          show shS (m.2 0) k rw.length (168 + 1 + j) = upd (w.2 5) rw.length (nI k) j
          unfold shS
          by_cases e : j < rw.length
          · rw [upd_ne (by omega), upd_ne (by omega), upd_ne (by omega), upd_ne (by omega)]
            exact hRw.2.2 j e
          · have : j = rw.length := by omega
            subst this
            rw [upd_eq, upd_eq]
        · rw [← List.append_assoc, List.nodup_append]
          refine ⟨hG.1, by simp, fun a ha b hb e => ?_⟩
          rw [List.mem_singleton] at hb
          subst hb; subst e
          exact hkr ha
        · rw [← List.append_assoc, List.mem_append, List.mem_singleton, hG.2 j]
          exact (tg j).symm
        · unfold shS; simp (disch := omega) only [upd_ne]
        · unfold shS; simp (disch := omega) only [upd_ne]
        · unfold shS; simp (disch := omega) only [upd_ne]
        · unfold shS; simp (disch := omega) only [upd_ne]
      · intro j
        show tb (w.1 16 ||| bI (nI k)) j = true ↔ _
        rw [tg j]
        constructor
        · rintro (q | q)
          · exact Or.inl q
          · subst q; exact Or.inr ⟨rfl, hk, hb0⟩
        · rintro (q | ⟨a, b, _⟩)
          · exact Or.inl q
          · exact Or.inr (nI_inj (by omega) (by omega) a).symm
      · refine ⟨fun r h1 h2 => ?_, fun a ha => ?_⟩
        · show (if r = 24 then _ else if r = 16 then _ else w.1 r) = w.1 r
          rw [if_neg h2, if_neg h1]
        · show (if a = 5 then _ else w.2 a) = w.2 a
          rw [if_neg ha]
