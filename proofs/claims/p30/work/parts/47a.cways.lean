/-! PURE: the law's writes, cut by their ways -/
def wb0 (x2 A b can bad Q : Int32) (t : TT) (m : St) : Option (Int32 × JT) := if ib A 24 then (if (m.2 2 A.toNatClampNeg) < 0 then (f_X6_field A ((x2 / 576) - (x2 / 576) / 3 * 3) b t).bind fun o34 => if ib A 24 then (if (m.2 2 A.toNatClampNeg) < 0 then some (((-11) : Int32)) else (if bad = (-11) then (if can = 0 then some (((-11) : Int32)) else some (((-12) : Int32))) else some (((-12) : Int32)))).bind fun o38 => (if o34.1 = o38 then some (1, (o34.2, m)) else some (0, (o34.2, m))) else none else (if ((Q >>> (A &&& 31)) &&& 1) = 0 then (f_X6_field A ((x2 / 576) - (x2 / 576) / 3 * 3) b t).bind fun o45 => if ib A 24 then (if (m.2 2 A.toNatClampNeg) < 0 then some (((-11) : Int32)) else (if bad = (-11) then (if can = 0 then some (((-11) : Int32)) else some (((-12) : Int32))) else some (((-12) : Int32)))).bind fun o49 => (if o45.1 = o49 then some (1, (o45.2, m)) else some (0, (o45.2, m))) else none else (if can = 0 then (f_X6_field A ((x2 / 576) - (x2 / 576) / 3 * 3) b t).bind fun o56 => if ib A 24 then (if (m.2 2 A.toNatClampNeg) < 0 then some (((-11) : Int32)) else (if bad = (-11) then (if can = 0 then some (((-11) : Int32)) else some (((-12) : Int32))) else some (((-12) : Int32)))).bind fun o60 => (if o56.1 = o60 then some (1, (o56.2, m)) else some (0, (o56.2, m))) else none else (f_L_at ((3 * A) + ((x2 / 576) - (x2 / 576) / 3 * 3)) m).bind fun o66 => (f_L_put ((3 * A) + ((x2 / 576) - (x2 / 576) / 3 * 3)) b o66.2).bind fun o68 => if ib A 24 then (if (o68.2.2 2 A.toNatClampNeg) = 2 then some ((1 : Int32)) else some ((0 : Int32))).bind fun o72 => (f_L_care o66.1 b o72 o68.2).bind fun o75 => (f_X6_field A ((x2 / 576) - (x2 / 576) / 3 * 3) b t).bind fun o77 => (if o77.1 = o66.1 then some (1, (o77.2, o75.2)) else some (0, (o77.2, o75.2))) else none))) else none
def wb1 (x2 A b can bad Q : Int32) (t : TT) (m : St) : Option (Int32 × JT) := (f_X6_root ((x2 / 576) - (x2 / 576) / 4 * 4) b t).bind fun o81 => (if can = 0 then some (bad, (o81.2, m)) else (f_L_writeRoot ((x2 / 576) - (x2 / 576) / 4 * 4) b m).bind fun o87 => some (o87.1, (o81.2, o87.2))).bind fun o84 => (if o81.1 = o84.1 then some (1, o84.2) else some (0, o84.2))
def wb2 (x2 A b can bad Q : Int32) (t : TT) (m : St) : Option (Int32 × JT) := if ib (4 + ((x2 / 576) - (x2 / 576) / 4 * 4)) 8 then (if can = 0 then some (m.2 7 (4 + ((x2 / 576) - (x2 / 576) / 4 * 4)).toNatClampNeg) else some (b)).bind fun o93 => if ib (4 + ((x2 / 576) - (x2 / 576) / 4 * 4)) 8 then (f_X6_weak ((x2 / 576) - (x2 / 576) / 4 * 4) b t).bind fun o97 => (if can = 0 then some (bad) else some (m.2 7 (4 + ((x2 / 576) - (x2 / 576) / 4 * 4)).toNatClampNeg)).bind fun o100 => (if o97.1 = o100 then some (1, (o97.2, sA m 7 (4 + ((x2 / 576) - (x2 / 576) / 4 * 4)) o93)) else some (0, (o97.2, sA m 7 (4 + ((x2 / 576) - (x2 / 576) / 4 * 4)) o93))) else none else none
def wb3 (x2 A b can bad Q : Int32) (t : TT) (m : St) : Option (Int32 × JT) := if ib (4 + (x2 - x2 / 4 * 4)) 8 then (if (m.2 7 (4 + (x2 - x2 / 4 * 4)).toNatClampNeg) < 0 then (f_X6_ask (x2 - x2 / 4 * 4) ((x2 / 576) - (x2 / 576) / 4 * 4) t).bind fun o107 => (if o107.1 = (-14) then some (1, (o107.2, m)) else some (0, (o107.2, m))) else (f_L_writeRoot ((x2 / 576) - (x2 / 576) / 4 * 4) (m.2 7 (4 + (x2 - x2 / 4 * 4)).toNatClampNeg) m).bind fun o110 => if ib 0 11 then (if (o110.2.2 0 (0 : Int32).toNatClampNeg) = 1 then (f_L_shade (m.2 7 (4 + (x2 - x2 / 4 * 4)).toNatClampNeg) o110.2).bind fun o117 => some ((t, o117.2)) else if ib 0 11 then (if (o110.2.2 0 (0 : Int32).toNatClampNeg) = 2 then (f_L_shade (m.2 7 (4 + (x2 - x2 / 4 * 4)).toNatClampNeg) o110.2).bind fun o121 => some ((t, o121.2)) else some ((t, o110.2))) else none).bind fun o114 => (f_X6_ask (x2 - x2 / 4 * 4) ((x2 / 576) - (x2 / 576) / 4 * 4) o114.1).bind fun o123 => (if o123.1 = (m.2 7 (4 + (x2 - x2 / 4 * 4)).toNatClampNeg) then some (1, (o123.2, o114.2)) else some (0, (o123.2, o114.2))) else none) else none
def wb4 (x2 A b can bad Q : Int32) (t : TT) (m : St) : Option (Int32 × JT) := if ib A 24 then (if (m.2 2 A.toNatClampNeg) < 0 then (f_X6_want A t).bind fun o129 => if ib A 24 then (if (m.2 2 A.toNatClampNeg) < 0 then some (((-11) : Int32)) else some (((-12) : Int32))).bind fun o133 => (if o129.1 = o133 then some (1, (o129.2, m)) else some (0, (o129.2, m))) else none else (if ((Q >>> (A &&& 31)) &&& 1) = 0 then (f_X6_want A t).bind fun o138 => if ib A 24 then (if (m.2 2 A.toNatClampNeg) < 0 then some (((-11) : Int32)) else some (((-12) : Int32))).bind fun o142 => (if o138.1 = o142 then some (1, (o138.2, m)) else some (0, (o138.2, m))) else none else if ib A 24 then (if (m.2 3 A.toNatClampNeg) = 1 then (f_X6_want A t).bind fun o148 => if ib A 24 then (if (m.2 2 A.toNatClampNeg) < 0 then some (((-11) : Int32)) else some (((-12) : Int32))).bind fun o152 => (if o148.1 = o152 then some (1, (o148.2, m)) else some (0, (o148.2, m))) else none else if ib A 24 then (f_L_writes_L608 BIG A 0 0 (t, sA m 3 A 1)).bind fun o164 => (f_X6_want A o164.2.1).bind fun o166 => (if o166.1 = o164.1 then some (1, (o166.2, o164.2.2)) else some (0, (o166.2, o164.2.2))) else none) else none)) else none
def wb5 (x2 A b can bad Q : Int32) (t : TT) (m : St) : Option (Int32 × JT) := (if (x2 - x2 / 3 * 3) = 0 then some (((-1) : Int32)) else some ((x2 / 576) - (x2 / 576) / 4 * 4)).bind fun o170 => if ib 9 11 then (if (m.2 0 (9 : Int32).toNatClampNeg) = 0 then (f_X6_finish o170 t).bind fun o175 => (if o175.1 = (-12) then some (1, (o175.2, m)) else some (0, (o175.2, m))) else if ib 0 24 then if ib 9 11 then if ib 9 11 then (f_L_writes_L715 BIG o170 (m.2 5 (0 : Int32).toNatClampNeg) 0 (t, sA m 0 9 ((m.2 0 (9 : Int32).toNatClampNeg) - 1))).bind fun o185 => (if o170 < 0 then some (o185) else (f_L_writeRoot o170 (m.2 5 (0 : Int32).toNatClampNeg) o185.2).bind fun o191 => some ((o185.1, o191.2))).bind fun o188 => if ib 0 11 then (if (o188.2.2 0 (0 : Int32).toNatClampNeg) = 1 then (f_L_shade (m.2 5 (0 : Int32).toNatClampNeg) o188.2).bind fun o198 => some ((o188.1, o198.2)) else if ib 0 11 then (if (o188.2.2 0 (0 : Int32).toNatClampNeg) = 2 then (f_L_shade (m.2 5 (0 : Int32).toNatClampNeg) o188.2).bind fun o202 => some ((o188.1, o202.2)) else some (o188)) else none).bind fun o195 => if ib 5 11 then if ib 5 11 then (f_X6_finish o170 o195.1).bind fun o206 => (if o206.1 = (m.2 5 (0 : Int32).toNatClampNeg) then some (1, (o206.2, sA o195.2 0 5 ((o195.2.2 0 (5 : Int32).toNatClampNeg) + 1))) else some (0, (o206.2, sA o195.2 0 5 ((o195.2.2 0 (5 : Int32).toNatClampNeg) + 1)))) else none else none else none else none else none else none) else none
def wbody (x1 x2 A b can bad Q : Int32) (t : TT) (m : St) : Option (Int32 × JT) := (if x1 = 0 then wb0 x2 A b can bad Q t m else (if x1 = 1 then wb1 x2 A b can bad Q t m else (if x1 = 2 then wb2 x2 A b can bad Q t m else (if x1 = 3 then wb3 x2 A b can bad Q t m else (if x1 = 4 then wb4 x2 A b can bad Q t m else wb5 x2 A b can bad Q t m)))))
theorem writes_pre {x1 x2 b0 A b can bad Q : Int32} {t : TT} {m : St} (hQ : f_L_reached m = some (Q, m)) (hb0 : (if (x2 - x2 / 5 * 5) = 0 then some (((-1) : Int32)) else some ((x2 / 24) - (x2 / 24) / 24 * 24)) = some b0) (hL : f_L_writes_L42 BIG x1 x2 Q (x2 - x2 / 24 * 24) b0 0 (t, m) = some (A, b, (t, m)))
    (hcan : (if b < 0 then some ((1 : Int32)) else (if ((Q >>> (b &&& 31)) &&& 1) = 1 then some ((1 : Int32)) else some ((0 : Int32)))) = some can) (hbad : (if b < 0 then some (((-12) : Int32)) else if ib b 24 then (if (m.2 2 b.toNatClampNeg) < 0 then some (((-11) : Int32)) else some (((-12) : Int32))) else none) = some bad) : f_L_writes x1 x2 (t, m) = wbody x1 x2 A b can bad Q t m := by
  unfold f_L_writes
  rw [hQ, Option.bind_some]
  dsimp only
  rw [hb0, Option.bind_some, hL, Option.bind_some]
  dsimp only
  rw [hcan, Option.bind_some, hbad, Option.bind_some]
  rfl
def okb (b : Int32) : Prop := b = -1 ∨ ∃ j, j < 24 ∧ b = nI j
theorem nx24 {a : Nat} (ha : a < 24) : (nI a + 1) - (nI a + 1) / 24 * 24 = nI ((a + 1) % 24) := by rw [addR, remL (by omega) (by omega) (by omega)]
theorem wr42 (x9 x10 Q : Int32) (w : JT) : ∀ (n k a : Nat) (b : Int32), k ≤ 24 → 24 - k < n → a < 24 → okb b → ∃ a' b', f_L_writes_L42 n x9 x10 Q (nI a) b (nI k) w = some (nI a', b', w) ∧ a' < 24 ∧ okb b' := by
  intro n
  induction n with
  | zero => intro k a b _ h; omega
  | succ n ih =>
    intro k a b hk hn ha hb
    by_cases h : k < 24
    · by_cases h7 : (0 : Int32) < x10 - x10 / 7 * 7
      · obtain ⟨a1, ha1, ea⟩ : ∃ a1, a1 < 24 ∧ (if ((Q >>> (nI a &&& 31)) &&& 1) = 1 then some (nI a) else some ((nI a + 1) - (nI a + 1) / 24 * 24)) = some (nI a1) := by
          by_cases z : ((Q >>> (nI a &&& 31)) &&& 1) = 1
          · exact ⟨a, ha, if_pos z⟩
          · exact ⟨(a + 1) % 24, Nat.mod_lt _ (by omega), by rw [if_neg z, nx24 ha]⟩
        obtain ⟨b1, hb1, eb⟩ : ∃ b1, okb b1 ∧ (if b < 0 then some b else (if ((Q >>> (b &&& 31)) &&& 1) = 1 then some b else some ((b + 1) - (b + 1) / 24 * 24))) = some b1 := by
          rcases hb with rfl | ⟨j, hj, rfl⟩
          · exact ⟨-1, Or.inl rfl, if_pos (by decide)⟩
          · by_cases z : ((Q >>> (nI j &&& 31)) &&& 1) = 1
            · exact ⟨nI j, Or.inr ⟨j, hj, rfl⟩, by rw [if_neg (nI_pos (by omega)), if_pos z]⟩
            · exact ⟨nI ((j + 1) % 24), Or.inr ⟨_, Nat.mod_lt _ (by omega), rfl⟩, by rw [if_neg (nI_pos (by omega)), if_neg z, nx24 hj]⟩
        obtain ⟨a', b', e, h1, h2⟩ := ih (k + 1) a1 b1 (by omega) (by omega) ha1 hb1
        refine ⟨a', b', ?_, h1, h2⟩
        rw [f_L_writes_L42, if_pos ((ltL (by omega) (by omega)).mpr h), if_pos h7, ea, Option.bind_some, eb, Option.bind_some, addR]
        exact e
      · refine ⟨a, b, ?_, ha, hb⟩
        rw [f_L_writes_L42, if_pos ((ltL (by omega) (by omega)).mpr h), if_neg h7]
    · refine ⟨a, b, ?_, ha, hb⟩
      rw [f_L_writes_L42, if_neg (fun q => h ((ltL (by omega) (by omega)).mp q))]
/-- what a write's call is about: a number a, a number b or none, what is reached -/
def canV (Q b : Int32) : Int32 := if b < 0 then 1 else if ((Q >>> (b &&& 31)) &&& 1) = 1 then 1 else 0
def badV (m : St) (b : Int32) : Int32 := if b < 0 then -12 else if m.2 2 b.toNatClampNeg < 0 then -11 else -12
theorem can_m1 (Q : Int32) : canV Q (-1) = 1 := if_pos (by decide)
theorem can_nI (Q : Int32) {j : Nat} (hj : j < 24) : canV Q (nI j) = if tb Q j then 1 else 0 := by
  unfold canV
  rw [if_neg (nI_pos (by omega))]
  cases z : tb Q j
  · rw [if_neg (fun q => by rw [(shr_1 hj).mp q] at z; cases z)]; rfl
  · rw [if_pos ((shr_1 hj).mpr z)]; rfl
theorem bad_m1 (m : St) : badV m (-1) = -12 := if_pos (by decide)
theorem bad_nI (m : St) {j : Nat} (hj : j < 24) : badV m (nI j) = if m.2 2 j < 0 then -11 else -12 := by
  unfold badV
  rw [if_neg (nI_pos (by omega)), clN (by omega)]
theorem T_writes {t : TT} {m : St} {s : Nat → Int32} {B Y : Nat} {x1 : Int32} (hY : Y < 10000000) (h : RelC t s B) (hE : En m s)
    (hw : ∀ (a : Nat) (b Q : Int32), a < 24 → okb b → f_L_reached m = some (Q, m) → f_X7_reached (mkM s) = some (Q, mkM s) → (∀ j, j < 24 → tb Q j = true → s (7 * j) = 1) → ∃ p', wbody x1 (nI Y) (nI a) b (canV Q b) (badV m b) Q t m = some (1, p') ∧ InvJ p' (B + 1)) :
    ∃ p', f_L_writes x1 (nI Y) (t, m) = some (1, p') ∧ InvJ p' (B + 1) := by
  obtain ⟨rw, li, hS⟩ := h.2.2
  obtain ⟨Q, e1, e2, _, e4⟩ := T_reached (M := mkM s) hS.1 hE
  obtain ⟨b0, hb0, eb0⟩ : ∃ b0, okb b0 ∧ (if (nI Y - nI Y / 5 * 5) = 0 then some (((-1) : Int32)) else some ((nI Y / 24) - (nI Y / 24) / 24 * 24)) = some b0 := by
    by_cases z : nI Y - nI Y / 5 * 5 = 0
    · exact ⟨-1, Or.inl rfl, if_pos z⟩
    · refine ⟨nI (Y / 24 % 24), Or.inr ⟨_, Nat.mod_lt _ (by omega), rfl⟩, ?_⟩
      rw [if_neg z, divL (by omega) (by omega) (by omega), remL (by omega) (by omega) (by omega)]
  obtain ⟨a, b, eL, ha, hb⟩ := wr42 x1 (nI Y) Q (t, m) BIG 0 (Y % 24) b0 (by omega) (by unfold BIG; omega) (Nat.mod_lt _ (by omega)) hb0
  obtain ⟨p', q1, q2⟩ := hw a b Q ha hb e1 e2 (fun j hj q => p_one hS.1.2.1 j hj (e4 j hj q))
  refine ⟨p', ?_, q2⟩
  rw [writes_pre (can := canV Q b) (bad := badV m b) e1 eb0 (A := nI a) (b := b) ?_ ?_ ?_]
  · exact q1
  · rw [remL (by omega) (by omega) (by omega)]
    exact eL
  · unfold canV
    split
    · rfl
    · split <;> rfl
  · rcases hb with rfl | ⟨j, hj, rfl⟩
    · rw [if_pos (by decide), bad_m1]
    · unfold badV
      rw [if_neg (nI_pos (by omega)), if_pos (ib24 hj), if_neg (nI_pos (by omega))]
      split <;> rfl
