/-! THE WORLD OF THE CLASS: commands (cells 0, 1), the top (2 to 4), state i from cell 5 + 11 i on -/
abbrev TT : Type := (Nat → St) × (St × (Nat → Int32))
def cmC (ad : Nat → Nat) (cI : ClassId × ClassId) (v : St) : va_W := [(ad 0, .inr (0, [.ref (ad 1), .int (v.1 0), .int (v.1 1), .int (v.1 2), .int (v.1 3), .int (v.1 4), .int (v.1 5), .int (v.1 6), .int (v.1 7), .int (v.1 8), .int (v.1 9)])), (ad 1, .inl (cI.1, 60, .inl (v.2 0)))]
def stC (ad : Nat → Nat) (cI : ClassId × ClassId) (b : Nat) (v : St) : va_W := [(ad b, .inr (5, [.ref (ad (b + 1)), .ref (ad (b + 2)), .ref (ad (b + 10)), .int (v.1 10), .int (v.1 11), .int (v.1 12)])), (ad (b + 1), .inr (1, [.int (v.1 13), .int (v.1 14), .ref (ad (b + 5)), .ref (ad (b + 6)), .ref (ad (b + 7)), .ref (ad (b + 3))])), (ad (b + 2), .inr (4, [.int (v.1 15), .int (v.1 16), .int (v.1 17), .ref (ad (b + 4)), .int (v.1 18), .int (v.1 19), .int (v.1 20), .int (v.1 21), .int (v.1 22)])), (ad (b + 3), .inr (3, [.ref (ad (b + 8)), .int (v.1 23)])), (ad (b + 4), .inr (3, [.ref (ad (b + 9)), .int (v.1 24)])), (ad (b + 5), .inl (cI.1, 72, .inl (v.2 1))), (ad (b + 6), .inl (cI.1, 4, .inl (v.2 2))), (ad (b + 7), .inl (cI.1, 4, .inl (v.2 3))), (ad (b + 8), .inl (cI.1, 24, .inl (v.2 4))), (ad (b + 9), .inl (cI.1, 24, .inl (v.2 5))), (ad (b + 10), .inl (cI.1, 24, .inl (v.2 6)))]
def hC (ad : Nat → Nat) : Nat → Option Nat := fun k => some (ad (38 + 11 * k))
def topC (ad : Nat → Nat) (cI : ClassId × ClassId) (v : Nat → Int32) : va_W := [(ad 2, .inr (6, [.ref (ad 5), .ref (ad 16), .ref (ad 27), .ref (ad 3), .ref (ad 0), .int (v 0)])), (ad 3, .inr (2, [.ref (ad 4), .int (v 1), .int (v 2)])), (ad 4, .inl (cI.2, 5, .inr (.inr (.inr (.inr (hC ad))))))]
def wT (ad : Nat → Nat) (cI : ClassId × ClassId) (t : TT) : va_W := cmC ad cI t.2.1 ++ (topC ad cI t.2.2 ++ (List.range 8).flatMap (fun i => stC ad cI (5 + 11 * i) (t.1 i)))
def rho (b : Nat) (ad : Nat → Nat) : Nat → Nat := fun k => if k < 2 then ad k else ad (b + (k - 2))
/-- what a state's methods see: the commands' numbers, and state i's -/
def mix (t : TT) (i : Nat) : St := (fun r => if r < 10 then t.2.1.1 r else (t.1 i).1 r, fun a => if a = 0 then t.2.1.2 0 else (t.1 i).2 a)
def put (t : TT) (i : Nat) (v : St) : TT := (fun j => if j = i then v else t.1 j, (v, t.2.2))
def tR (t : TT) (r : Nat) (v : Int32) : TT := (t.1, (t.2.1, us t.2.2 r v))
def cpT (t : TT) (i j : Nat) : TT := (fun k => if k = i then t.1 j else t.1 k, t.2)
theorem wS_mix (ad : Nat → Nat) (cI : ClassId × ClassId) (t : TT) (i b : Nat) : wS (rho b ad) cI (mix t i) = cmC ad cI t.2.1 ++ stC ad cI b (t.1 i) := rfl
theorem wS_cut (ad : Nat → Nat) (cI : ClassId × ClassId) (v : St) (b : Nat) : wS (rho b ad) cI v = cmC ad cI v ++ stC ad cI b v := rfl
theorem va_P_iff {D : va_G} {cl : List vw_C} {ws : va_W} {H : Heap} : va_P D cl ws H ↔ ∀ q ∈ ws, va_at D cl q H := by
  constructor
  · intro h q hq
    obtain ⟨k, hk⟩ := List.getElem?_of_mem hq
    exact h k q hk
  · intro h k q hk
    exact h q (List.mem_of_getElem? hk)
theorem va_D_iff {A : Nat → Prop} {ws : va_W} : va_D A ws ↔ (ws.map Prod.fst).Nodup ∧ ∀ q ∈ ws, A q.1 := by
  constructor
  · intro h
    refine ⟨?_, fun q hq => ?_⟩
    · rw [List.nodup_iff_pairwise_ne, List.pairwise_iff_getElem]
      intro i j hi hj hij heq
      rw [List.length_map] at hi hj
      rw [List.getElem_map, List.getElem_map] at heq
      have := h.1 i j ws[i] ws[j] (List.getElem?_eq_getElem hi) (List.getElem?_eq_getElem hj) heq
      omega
    · obtain ⟨k, hk⟩ := List.getElem?_of_mem hq
      exact h.2 k q hk
  · rintro ⟨h1, h2⟩
    refine ⟨fun i j p q hi hj he => ?_, fun k q hk => h2 q (List.mem_of_getElem? hk)⟩
    rw [List.nodup_iff_pairwise_ne, List.pairwise_iff_getElem] at h1
    have li := (List.getElem?_eq_some_iff.mp hi).1
    have lj := (List.getElem?_eq_some_iff.mp hj).1
    have ei := (List.getElem?_eq_some_iff.mp hi).2
    have ej := (List.getElem?_eq_some_iff.mp hj).2
    rcases Nat.lt_trichotomy i j with z | z | z
    · exact absurd (by rw [List.getElem_map, List.getElem_map, ei, ej]; exact he) (h1 i j (by rw [List.length_map]; exact li) (by rw [List.length_map]; exact lj) z)
    · exact z
    · exact absurd (by rw [List.getElem_map, List.getElem_map, ei, ej]; exact he.symm) (h1 j i (by rw [List.length_map]; exact lj) (by rw [List.length_map]; exact li) z)
/-- a contract over a part of a world serves the world -/
theorem lift_i {l : Launch} {D : va_G} {cI : ClassId × ClassId} {A A1 : Nat → Prop} {y : MethodName} {b : ByteArray} {nL : Nat} {ret : Option FieldType} {rm : Room} {As : List Value} {wc wc1 wb wb1 : va_W} {r : Int32} (hA1 : ∀ q, A1 q ↔ q ∈ wc.map Prod.fst) (h1 : ∀ q ∈ wc, q ∈ wb) (hn : (wb.map Prod.fst).Nodup → (wc.map Prod.fst).Nodup) (hm : wb1.map Prod.fst = wb.map Prod.fst) (h2 : (wb.map Prod.fst).Nodup → ∀ q ∈ wb1, q ∈ wc1 ∨ (q ∈ wb ∧ q.1 ∉ wc.map Prod.fst))
    (hM : CTi l D cI A1 y b nL ret rm As wc r wc1) : CTi l D cI A y b nL ret rm As wb r wb1 := by
  have hsub : ∀ {s : State}, va_D A wb → ∀ q, A1 q → A q := fun hD q hq => by
    obtain ⟨x, hx, rfl⟩ := List.mem_map.mp ((hA1 q).mp hq)
    exact (va_D_iff.mp hD).2 x (h1 x hx)
  unfold CTi Met at hM ⊢
  refine MetFree.mono hM (fun a s hp => ?_) (fun _ _ _ _ _ h => h) (fun a s o t hp hq => ?_)
  · obtain ⟨ha, hP, hK, hD⟩ := hp
    exact ⟨ha, va_P_iff.mpr (fun q hq => va_P_iff.mp hP q (h1 q hq)), hK, va_D_iff.mpr ⟨hn (va_D_iff.mp hD).1, fun q hq => (hA1 _).mpr (List.mem_map_of_mem hq)⟩⟩
  · obtain ⟨ha, hP, hK, hD⟩ := hp
    obtain ⟨⟨⟨x, u, hx, hr, hP1, hD1⟩, hF⟩, L, hL, hfree⟩ := hq
    refine ⟨⟨⟨x, u, hx, hr, va_P_iff.mpr (fun q hq => ?_), va_D_iff.mpr ⟨by rw [hm]; exact (va_D_iff.mp hD).1, fun q hq => ?_⟩⟩, hF.1, fun q h3 h4 => hF.2 q h3 (fun h5 => h4 (hsub (s := s) hD q h5))⟩, L, hL, fun q hq => hsub (s := s) hD _ (hfree q hq)⟩
    · rcases h2 (va_D_iff.mp hD).1 q hq with h3 | ⟨h3, h4⟩
      · exact va_P_iff.mp hP1 q h3
      · have h5 := va_P_iff.mp hP q h3
        exact h5.kept (hF.2 q.1 h5.lt (fun h6 => h4 ((hA1 _).mp h6)))
    · have : q.1 ∈ wb.map Prod.fst := by rw [← hm]; exact List.mem_map_of_mem hq
      obtain ⟨z, hz, he⟩ := List.mem_map.mp this
      rw [← he]
      exact (va_D_iff.mp hD).2 z hz
theorem lift_v {l : Launch} {D : va_G} {cI : ClassId × ClassId} {A A1 : Nat → Prop} {y : MethodName} {b : ByteArray} {nL : Nat} {ret : Option FieldType} {rm : Room} {As : List Value} {wc wc1 wb wb1 : va_W} (hA1 : ∀ q, A1 q ↔ q ∈ wc.map Prod.fst) (h1 : ∀ q ∈ wc, q ∈ wb) (hn : (wb.map Prod.fst).Nodup → (wc.map Prod.fst).Nodup) (hm : wb1.map Prod.fst = wb.map Prod.fst) (h2 : (wb.map Prod.fst).Nodup → ∀ q ∈ wb1, q ∈ wc1 ∨ (q ∈ wb ∧ q.1 ∉ wc.map Prod.fst) ∨ (∃ z ∈ wc1, ∀ (D : va_G) (H : Heap), va_at D vwCl z H → va_at D vwCl q H))
    (hM : CTv l D cI A1 y b nL ret rm As wc wc1) : CTv l D cI A y b nL ret rm As wb wb1 := by
  have hsub : ∀ {s : State}, va_D A wb → ∀ q, A1 q → A q := fun hD q hq => by
    obtain ⟨x, hx, rfl⟩ := List.mem_map.mp ((hA1 q).mp hq)
    exact (va_D_iff.mp hD).2 x (h1 x hx)
  unfold CTv Met at hM ⊢
  refine MetFree.mono hM (fun a s hp => ?_) (fun _ _ _ _ _ h => h) (fun a s o t hp hq => ?_)
  · obtain ⟨ha, hP, hK, hD⟩ := hp
    exact ⟨ha, va_P_iff.mpr (fun q hq => va_P_iff.mp hP q (h1 q hq)), hK, va_D_iff.mpr ⟨hn (va_D_iff.mp hD).1, fun q hq => (hA1 _).mpr (List.mem_map_of_mem hq)⟩⟩
  · obtain ⟨ha, hP, hK, hD⟩ := hp
    obtain ⟨⟨⟨u, hx, hr, hP1, hD1⟩, hF⟩, L, hL, hfree⟩ := hq
    refine ⟨⟨⟨u, hx, hr, va_P_iff.mpr (fun q hq => ?_), va_D_iff.mpr ⟨by rw [hm]; exact (va_D_iff.mp hD).1, fun q hq => ?_⟩⟩, hF.1, fun q h3 h4 => hF.2 q h3 (fun h5 => h4 (hsub (s := s) hD q h5))⟩, L, hL, fun q hq => hsub (s := s) hD _ (hfree q hq)⟩
    · rcases h2 (va_D_iff.mp hD).1 q hq with h3 | ⟨h3, h4⟩ | ⟨z, hz, h3⟩
      · exact va_P_iff.mp hP1 q h3
      · have h5 := va_P_iff.mp hP q h3
        exact h5.kept (hF.2 q.1 h5.lt (fun h6 => h4 ((hA1 _).mp h6)))
      · exact h3 D _ (va_P_iff.mp hP1 z hz)
    · have : q.1 ∈ wb.map Prod.fst := by rw [← hm]; exact List.mem_map_of_mem hq
      obtain ⟨z, hz, he⟩ := List.mem_map.mp this
      rw [← he]
      exact (va_D_iff.mp hD).2 z hz
theorem wT_fst (ad : Nat → Nat) (cI : ClassId × ClassId) (t : TT) : (wT ad cI t).map Prod.fst = (List.range 93).map ad := rfl
theorem nodup_map {α β : Type} {f : α → β} {l : List α} (h : ∀ a ∈ l, ∀ b ∈ l, f a = f b → a = b) (hl : l.Nodup) : (l.map f).Nodup := by
  induction l with
  | nil => exact List.nodup_nil
  | cons a t ih =>
    rw [List.map_cons, List.nodup_cons]
    rw [List.nodup_cons] at hl
    refine ⟨fun hm => ?_, ih (fun x hx y hy => h x (List.mem_cons_of_mem _ hx) y (List.mem_cons_of_mem _ hy)) hl.2⟩
    obtain ⟨b, hb, he⟩ := List.mem_map.mp hm
    have := h b (List.mem_cons_of_mem _ hb) a List.mem_cons_self he
    exact hl.1 (this ▸ hb)
theorem ad_inj {ad : Nat → Nat} {N : Nat} (h : ((List.range N).map ad).Nodup) {i j : Nat} (hi : i < N) (hj : j < N) (he : ad i = ad j) : i = j := by
  rw [List.nodup_iff_pairwise_ne, List.pairwise_iff_getElem] at h
  rcases Nat.lt_trichotomy i j with z | z | z
  · exact absurd (by rw [List.getElem_map, List.getElem_map, List.getElem_range, List.getElem_range]; exact he) (h i j (by simpa using hi) (by simpa using hj) z)
  · exact z
  · exact absurd (by rw [List.getElem_map, List.getElem_map, List.getElem_range, List.getElem_range]; exact he.symm) (h j i (by simpa using hj) (by simpa using hi) z)
theorem stC_fst (ad : Nat → Nat) (cI : ClassId × ClassId) (b : Nat) (v : St) : (stC ad cI b v).map Prod.fst = (List.range 11).map (fun j => ad (b + j)) := rfl
theorem cmC_fst (ad : Nat → Nat) (cI : ClassId × ClassId) (v : St) : (cmC ad cI v).map Prod.fst = (List.range 2).map ad := rfl
theorem topC_fst (ad : Nat → Nat) (cI : ClassId × ClassId) (v : Nat → Int32) : (topC ad cI v).map Prod.fst = (List.range 3).map (fun j => ad (2 + j)) := rfl
theorem mem_stC_fst {ad : Nat → Nat} {cI : ClassId × ClassId} {b : Nat} {v : St} {q : Nat × va_E} (h : q ∈ stC ad cI b v) : ∃ j, j < 11 ∧ q.1 = ad (b + j) := by
  have := List.mem_map_of_mem (f := Prod.fst) h
  rw [stC_fst] at this
  obtain ⟨j, hj, he⟩ := List.mem_map.mp this
  exact ⟨j, List.mem_range.mp hj, he.symm⟩
theorem mem_cmC_fst {ad : Nat → Nat} {cI : ClassId × ClassId} {v : St} {q : Nat × va_E} (h : q ∈ cmC ad cI v) : ∃ j, j < 2 ∧ q.1 = ad j := by
  have := List.mem_map_of_mem (f := Prod.fst) h
  rw [cmC_fst] at this
  obtain ⟨j, hj, he⟩ := List.mem_map.mp this
  exact ⟨j, List.mem_range.mp hj, he.symm⟩
theorem mem_topC_fst {ad : Nat → Nat} {cI : ClassId × ClassId} {v : Nat → Int32} {q : Nat × va_E} (h : q ∈ topC ad cI v) : ∃ j, j < 3 ∧ q.1 = ad (2 + j) := by
  have := List.mem_map_of_mem (f := Prod.fst) h
  rw [topC_fst] at this
  obtain ⟨j, hj, he⟩ := List.mem_map.mp this
  exact ⟨j, List.mem_range.mp hj, he.symm⟩
theorem mem_wT {ad : Nat → Nat} {cI : ClassId × ClassId} {t : TT} {q : Nat × va_E} : q ∈ wT ad cI t ↔ q ∈ cmC ad cI t.2.1 ∨ q ∈ topC ad cI t.2.2 ∨ ∃ i, i < 8 ∧ q ∈ stC ad cI (5 + 11 * i) (t.1 i) := by
  unfold wT
  rw [List.mem_append, List.mem_append, List.mem_flatMap]
  constructor
  · rintro (h | h | ⟨i, hi, h⟩)
    · exact Or.inl h
    · exact Or.inr (Or.inl h)
    · exact Or.inr (Or.inr ⟨i, List.mem_range.mp hi, h⟩)
  · rintro (h | h | ⟨i, hi, h⟩)
    · exact Or.inl h
    · exact Or.inr (Or.inl h)
    · exact Or.inr (Or.inr ⟨i, List.mem_range.mpr hi, h⟩)
/-- places of the part that a state's methods see -/
def plS (b : Nat) : List Nat := [0, 1, b, b + 1, b + 2, b + 3, b + 4, b + 5, b + 6, b + 7, b + 8, b + 9, b + 10]
theorem wS_fst (ad : Nat → Nat) (cI : ClassId × ClassId) (v : St) (b : Nat) : (wS (rho b ad) cI v).map Prod.fst = (plS b).map ad := rfl
theorem plS_nodup {b : Nat} (hb : 5 ≤ b) : (plS b).Nodup := by
  unfold plS
  simp only [List.nodup_cons, List.mem_cons, List.not_mem_nil, or_false, not_or, List.nodup_nil, and_true]
  refine ⟨?_, ?_, ?_, ?_, ?_, ?_, ?_, ?_, ?_, ?_, ?_, ?_, not_false⟩ <;> (repeat' apply And.intro) <;> omega
theorem plS_lt {b k : Nat} (hb : b + 10 < 93) (h : k ∈ plS b) : k < 93 := by
  unfold plS at h
  simp only [List.mem_cons, List.not_mem_nil, or_false] at h
  omega
theorem cm_out {ad : Nat → Nat} {q : Nat} {b N : Nat} (hn : ((List.range N).map ad).Nodup) (hb : b + 10 < N) (hb5 : 5 ≤ b) {k : Nat} (hk : k < N) (he : q = ad k) (h1 : 2 ≤ k) (h2 : k < b ∨ b + 11 ≤ k) : q ∉ (plS b).map ad := by
  intro h
  obtain ⟨j, hj, h3⟩ := List.mem_map.mp h
  have hj2 : j < N := by
    unfold plS at hj
    simp only [List.mem_cons, List.not_mem_nil, or_false] at hj
    omega
  have := ad_inj hn hj2 hk (h3.trans he)
  subst this
  unfold plS at hj
  simp only [List.mem_cons, List.not_mem_nil, or_false] at hj
  omega
theorem lt_sub (ad : Nat → Nat) (cI : ClassId × ClassId) (t : TT) {i : Nat} (hi : i < 8) : ∀ q ∈ wS (rho (5 + 11 * i) ad) cI (mix t i), q ∈ wT ad cI t := by
  intro q hq
  rw [wS_mix, List.mem_append] at hq
  exact mem_wT.mpr (hq.elim Or.inl (fun h => Or.inr (Or.inr ⟨i, hi, h⟩)))
theorem lt_nd (ad : Nat → Nat) (cI : ClassId × ClassId) (t : TT) (v : St) {i : Nat} (hi : i < 8) : ((wT ad cI t).map Prod.fst).Nodup → ((wS (rho (5 + 11 * i) ad) cI v).map Prod.fst).Nodup := by
  intro h
  rw [wT_fst] at h
  rw [wS_fst]
  exact nodup_map (fun a ha b hb he => ad_inj h (plS_lt (by omega) ha) (plS_lt (by omega) hb) he) (plS_nodup (by omega))
theorem lt_put (ad : Nat → Nat) (cI : ClassId × ClassId) (t : TT) (v : St) {i : Nat} (hi : i < 8) (h : ((wT ad cI t).map Prod.fst).Nodup) : ∀ q ∈ wT ad cI (put t i v), q ∈ wS (rho (5 + 11 * i) ad) cI v ∨ (q ∈ wT ad cI t ∧ q.1 ∉ (wS (rho (5 + 11 * i) ad) cI (mix t i)).map Prod.fst) := by
  intro q hq
  rw [wT_fst] at h
  rw [wS_cut, List.mem_append, wS_fst]
  rcases mem_wT.mp hq with h1 | h1 | ⟨j, hj, h1⟩
  · exact Or.inl (Or.inl h1)
  · obtain ⟨k, hk, he⟩ := mem_topC_fst h1
    exact Or.inr ⟨mem_wT.mpr (Or.inr (Or.inl h1)), cm_out h (by omega) (by omega) (by omega) he (by omega) (by omega)⟩
  · by_cases e : j = i
    · subst e
      have : (put t j v).1 j = v := if_pos rfl
      rw [this] at h1
      exact Or.inl (Or.inr h1)
    · have : (put t i v).1 j = t.1 j := if_neg e
      rw [this] at h1
      obtain ⟨k, hk, he⟩ := mem_stC_fst h1
      refine Or.inr ⟨mem_wT.mpr (Or.inr (Or.inr ⟨j, hj, h1⟩)), cm_out h (by omega) (by omega) (by omega) he (by omega) (by omega)⟩
def aS (ad : Nat → Nat) (b : Nat) : Nat → Prop := fun q => q ∈ (plS b).map ad
theorem liftT_i {l : Launch} {D : va_G} {cI : ClassId × ClassId} {A : Nat → Prop} {ad : Nat → Nat} {t : TT} {v : St} {y : MethodName} {b : ByteArray} {nL : Nat} {ret : Option FieldType} {rm : Room} {As : List Value} {r : Int32} {i : Nat} (hi : i < 8) (hM : CTi l D cI (aS ad (5 + 11 * i)) y b nL ret rm As (wS (rho (5 + 11 * i) ad) cI (mix t i)) r (wS (rho (5 + 11 * i) ad) cI v)) : CTi l D cI A y b nL ret rm As (wT ad cI t) r (wT ad cI (put t i v)) :=
  lift_i (fun q => by rw [wS_fst]; exact Iff.rfl) (lt_sub ad cI t hi) (lt_nd ad cI t _ hi) rfl (lt_put ad cI t v hi) hM
theorem liftT_v {l : Launch} {D : va_G} {cI : ClassId × ClassId} {A : Nat → Prop} {ad : Nat → Nat} {t : TT} {v : St} {y : MethodName} {b : ByteArray} {nL : Nat} {ret : Option FieldType} {rm : Room} {As : List Value} {i : Nat} (hi : i < 8) (hM : CTv l D cI (aS ad (5 + 11 * i)) y b nL ret rm As (wS (rho (5 + 11 * i) ad) cI (mix t i)) (wS (rho (5 + 11 * i) ad) cI v)) : CTv l D cI A y b nL ret rm As (wT ad cI t) (wT ad cI (put t i v)) :=
  lift_v (fun q => by rw [wS_fst]; exact Iff.rfl) (lt_sub ad cI t hi) (lt_nd ad cI t _ hi) rfl (fun h q hq => (lt_put ad cI t v hi h q hq).elim Or.inl (fun h => Or.inr (Or.inl h))) hM
