theorem jset_o (I : jI) (o j : Nat) (x : Int32) : jset I o j x o j = x := by simp [jset]
theorem jset_n (I : jI) {o j a b : Nat} (x : Int32) (h : ¬ (a = o ∧ b = j)) : jset I o j x a b = I a b := if_neg h
theorem here_set {I : jI} {o j : Nat} {x : Int32} (h5 : j ≠ 5) (h6 : j ≠ 6) : fX7_here (jset I o j x) o = fX7_here I o := by
  unfold fX7_here
  rw [jset_n I x (by omega), jset_n I x (by omega), jset_n I x (by omega)]
theorem dig_set {I : jI} {o j : Nat} {x : Int32} (h5 : j ≠ 5) (h6 : j ≠ 6) : fX7_isDigit (jset I o j x) o = fX7_isDigit I o := by
  unfold fX7_isDigit
  rw [here_set h5 h6]
  rfl
theorem j10 : ¬ (1 : Int32) = 0 := by decide
theorem takes_eq (I : jI) (o : Nat) (x : Int32) : fX7_takesSign I o x = if I o 10 = 0 then jset (jset I o 10 0) o 6 (I o 6 + 0) else if fX7_here I o = x then jset (jset I o 10 1) o 6 (I o 6 + 1) else jset (jset I o 10 0) o 6 (I o 6 + 0) := by
  unfold fX7_takesSign
  simp only [jset_o, j10, if_false, if_true]
  have e : ∀ v, jset I o 10 v o 6 = I o 6 := fun v => jset_n I v (by omega)
  simp only [e]
theorem number_eq (I : jI) (o : Nat) : fX7_number I o = if I o 10 = 0 then (0, jset I o 10 0) else if fX7_isDigit I o = 0 then (0, jset I o 10 0) else if fX7_isDigit (jset (jset I o 10 1) o 6 (I o 6 + 1)) o = 0 then (10 * 0 + fX7_here I o - 48, jset (jset I o 10 1) o 6 (I o 6 + 1)) else (10 * (10 * 0 + fX7_here I o - 48) + fX7_here (jset (jset I o 10 1) o 6 (I o 6 + 1)) o - 48, jset (jset (jset I o 10 1) o 6 (I o 6 + 1)) o 6 (I o 6 + 1 + 1)) := by
  unfold fX7_number
  have e : ∀ v, jset I o 10 v o 6 = I o 6 := fun v => jset_n I v (by omega)
  have e2 : ∀ v u, jset (jset I o 10 v) o 6 u o 10 = v := fun v u => by rw [jset_n _ u (by omega), jset_o]
  have e3 : ∀ v, fX7_isDigit (jset I o 10 v) o = fX7_isDigit I o := fun v => dig_set (by decide) (by decide)
  have e4 : ∀ v, fX7_here (jset I o 10 v) o = fX7_here I o := fun v => here_set (by decide) (by decide)
  simp only [jset_o, j10, if_false, if_true, e, e2, e3, e4]
  by_cases h1 : I o 10 = 0
  · simp only [if_pos h1]
  · by_cases h2 : fX7_isDigit I o = 0
    · simp only [if_neg h1, if_pos h2]
    · simp only [if_neg h1, if_neg h2]
/-- a step on the text: its place goes on, its form may fall -/
def jStep (I J : jI) (o : Nat) : Prop := jT J o ∧ (∀ b, b ≠ o → J b = I b) ∧ J o 5 = I o 5 ∧ (∃ a a', I o 6 = nI a ∧ J o 6 = nI a' ∧ a ≤ a' ∧ a' ≤ 60) ∧ (I o 10 = 0 → J o 10 = 0)
theorem jStep.tr {I J K : jI} {o : Nat} (h1 : jStep I J o) (h2 : jStep J K o) : jStep I K o := by
  obtain ⟨t1, b1, c1, ⟨a, a', e1, e2, e3, e9⟩, f1⟩ := h1
  obtain ⟨t2, b2, c2, ⟨a2, a2', e4, e5, e6, e7⟩, f2⟩ := h2
  refine ⟨t2, fun b hb => (b2 b hb).trans (b1 b hb), c2.trans c1, ⟨a, a2', e1, e5, ?_, e7⟩, fun h => f2 (f1 h)⟩
  have e8 : nI a' = nI a2 := e2.symm.trans e4
  rw [nI_eq (by omega) (by omega)] at e8
  omega
theorem jT.a {I : jI} {o : Nat} (h : jT I o) : ∃ a, I o 6 = nI a ∧ a ≤ 60 := by
  obtain ⟨a, l, h1, h2, h3, h4⟩ := h
  exact ⟨a, h1, by omega⟩
theorem jStep.rf {I : jI} {o : Nat} (h : jT I o) : jStep I I o := by
  obtain ⟨a, e, ha⟩ := h.a
  exact ⟨h, fun _ _ => rfl, rfl, ⟨a, a, e, e, Nat.le_refl _, ha⟩, id⟩
theorem jStep.put {I : jI} {o j : Nat} {x : Int32} (h : jT I o) (hj : j ≠ 5 ∧ j ≠ 6) (h10 : j = 10 → I o 10 = 0 → x = 0) : jStep I (jset I o j x) o := by
  obtain ⟨a, e, ha⟩ := h.a
  refine ⟨h.set ⟨hj.2, hj.1⟩, fun b hb => by funext q; simp [jset, hb], jset_n I x (by omega), ⟨a, a, e, by rw [jset_n I x (by omega)]; exact e, Nat.le_refl _, ha⟩, fun h0 => ?_⟩
  by_cases hj10 : j = 10
  · subst hj10; rw [jset_o]; exact h10 rfl h0
  · rw [jset_n I x (by omega)]; exact h0
theorem jStep.inc {I : jI} {o : Nat} (hT : jT I o) (h : ¬ I o 5 ≤ I o 6) : jStep I (jset I o 6 (I o 6 + 1)) o := by
  have hT2 := hT.inc h
  obtain ⟨a, e, ha⟩ := hT.a
  obtain ⟨a', e', ha'⟩ := hT2.a
  refine ⟨hT2, fun b hb => by funext q; simp [jset, hb], jset_n I _ (by omega), ⟨a, a', e, e', ?_, ha'⟩, fun h0 => by rw [jset_n I _ (by omega)]; exact h0⟩
  rw [jset_o, e, nI_1, nI_eq (by omega) (by omega)] at e'
  omega
theorem jset6 {I : jI} {o : Nat} : jset I o 6 (I o 6 + 0) = I := by
  funext a b
  by_cases h : a = o ∧ b = 6
  · obtain ⟨rfl, rfl⟩ := h
    rw [jset_o]
    exact Int32.add_zero _
  · exact jset_n I _ h
theorem jset6' {I : jI} {o : Nat} {x : Int32} : jset (jset I o 10 x) o 6 (I o 6 + 0) = jset I o 10 x := by
  have e : jset I o 10 x o 6 = I o 6 := jset_n I x (by omega)
  rw [← e]
  exact jset6
theorem jset6i {I : jI} {o : Nat} {x : Int32} : jset (jset I o 10 x) o 6 (I o 6 + 1) = jset (jset I o 10 x) o 6 (jset I o 10 x o 6 + 1) := by
  rw [jset_n I x (by omega)]
theorem jhereT {I : jI} {o : Nat} {x : Int32} (hx : x ≠ (-1)) (h : fX7_here I o = x) : ¬ I o 5 ≤ I o 6 := fun hc => hx ((jhere hc) ▸ h.symm)
theorem jStep.takes {I : jI} {o : Nat} {x : Int32} (hT : jT I o) (hx : x ≠ (-1)) : jStep I (fX7_takesSign I o x) o := by
  rw [takes_eq]
  split
  · rw [jset6']
    exact jStep.put hT (by decide) (fun _ _ => rfl)
  · rename_i h10
    split
    · rename_i hh
      have h1 := jStep.put (x := 1) hT (j := 10) (by decide) (fun _ h0 => absurd h0 h10)
      refine h1.tr ?_
      rw [jset6i]
      refine jStep.inc h1.1 ?_
      rw [jset_n I 1 (by omega), jset_n I 1 (by omega)]
      exact jhereT hx hh
    · rw [jset6']
      exact jStep.put hT (by decide) (fun _ _ => rfl)
theorem jStep.number {I : jI} {o : Nat} (hT : jT I o) : jStep I (fX7_number I o).2 o := by
  rw [number_eq]
  split
  · exact jStep.put hT (by decide) (fun _ _ => rfl)
  · rename_i h10
    split
    · exact jStep.put hT (by decide) (fun _ _ => rfl)
    · rename_i hd
      have h1 := jStep.put (x := 1) hT (j := 10) (by decide) (fun _ h0 => absurd h0 h10)
      have h2 : jStep I (jset (jset I o 10 1) o 6 (I o 6 + 1)) o := by
        refine h1.tr ?_
        rw [jset6i]
        refine jStep.inc h1.1 ?_
        rw [jset_n I 1 (by omega), jset_n I 1 (by omega)]
        exact jdig hd
      split
      · exact h2
      · rename_i hd2
        refine h2.tr ?_
        have e : I o 6 + 1 + 1 = jset (jset I o 10 1) o 6 (I o 6 + 1) o 6 + 1 := by rw [jset_o]
        rw [e]
        exact jStep.inc h2.1 (jdig hd2)
/-! one order -/
def tSign (I : jI) (o : Nat) : Int32 := fX7_here (jset I o 7 (I o 6)) o
def tA (I : jI) (o : Nat) : jI := jset (jset I o 7 (I o 6)) o 10 (fX7_isOrder (jset I o 7 (I o 6)) (tSign I o))
def tB (I : jI) (o : Nat) : jI := if I o 10 = 0 then jset I o 6 (I o 6 + 0) else jset I o 6 (I o 6 + 1)
def tC (I : jI) (o : Nat) : jI := jset (fX7_number I o).2 o 11 (fX7_number I o).1
def tD (I : jI) (o : Nat) (sg : Int32) : jI := if sg = 105 then jset (fX7_number (fX7_takesSign I o 44) o).2 o 12 (fX7_number (fX7_takesSign I o 44) o).1 else I
def tE (I : jI) (o : Nat) : jI := fX7_takesSign I o 59
def tF (I : jI) (o : Nat) (sg : Int32) : jI := if I o 10 = 0 then jset I o 9 0 else jset (fX7_called I o sg).2 o 9 (fX7_called I o sg).1
def tRead (I : jI) (o : Nat) : jI := tE (tD (tC (tB (tA I o) o) o) o (tSign I o)) o
def tDone (I : jI) (o : Nat) : jI := tF (tRead I o) o (tSign I o)
def tAll (o : Nat) : Nat → jI → Int32 × jI
  | 0, I => (1, I)
  | n + 1, I => if I o 5 ≤ I o 6 then (1, I)
    else if (tDone I o) o 10 = 0 then (0, tDone I o)
    else if (-2000000001) < (tDone I o) o 9 then tAll o n (jset (tDone I o) o 8 ((tDone I o) o 8 + 1)) else (0, tDone I o)
def fX7_doesAll (I : jI) (o : Nat) : Int32 × jI := tAll o 61 (jset (jset I o 6 0) o 8 0)
theorem tRead_ok {I : jI} {o : Nat} (hT : jT I o) (h : ¬ I o 5 ≤ I o 6) : (jT (tRead I o) o ∧ (∀ b, b ≠ o → (tRead I o) b = I b) ∧ (tRead I o) o 5 = I o 5) ∧ (¬ (tRead I o) o 10 = 0 → ∃ a a', I o 6 = nI a ∧ (tRead I o) o 6 = nI a' ∧ a < a' ∧ a' ≤ 60) := by
  have s0 : jStep I (jset I o 7 (I o 6)) o := jStep.put hT (by decide) (fun h => absurd h (by decide))
  have eA6 : (tA I o) o 6 = I o 6 := by unfold tA; rw [jset_n _ _ (by omega), jset_n _ _ (by omega)]
  have eA5 : (tA I o) o 5 = I o 5 := by unfold tA; rw [jset_n _ _ (by omega), jset_n _ _ (by omega)]
  have eAT : jT (tA I o) o := hT.same eA6 eA5
  have eAb : ∀ b, b ≠ o → (tA I o) b = I b := fun b hb => by funext q; simp [tA, jset, hb]
  obtain ⟨a0, ea0, ha0⟩ := hT.a
  -- behind the kind
  have rest : ∀ J : jI, jT J o → jStep J (tE (tD (tC J o) o (tSign I o)) o) o := by
    intro J hJ
    have n1 := jStep.number hJ
    have n2 : jStep J (tC J o) o := n1.tr (jStep.put n1.1 (by decide) (fun h => absurd h (by decide)))
    have n3 : jStep J (tD (tC J o) o (tSign I o)) o := by
      unfold tD
      split
      · have k1 := jStep.takes (x := 44) n2.1 (by decide)
        have k2 := jStep.number k1.1
        exact ((n2.tr k1).tr k2).tr (jStep.put k2.1 (by decide) (fun h => absurd h (by decide)))
      · exact n2
    exact n3.tr (jStep.takes (x := 59) n3.1 (by decide))
  by_cases hB : (tA I o) o 10 = 0
  · have eB : tB (tA I o) o = tA I o := by unfold tB; rw [if_pos hB]; exact jset6
    have r := rest (tA I o) eAT
    unfold tRead
    rw [eB]
    exact ⟨⟨r.1, fun b hb => (r.2.1 b hb).trans (eAb b hb), r.2.2.1.trans eA5⟩, fun hne => absurd (r.2.2.2.2 hB) hne⟩
  · have eB : tB (tA I o) o = jset (tA I o) o 6 ((tA I o) o 6 + 1) := by unfold tB; rw [if_neg hB]
    have hAlt : ¬ (tA I o) o 5 ≤ (tA I o) o 6 := by rw [eA5, eA6]; exact h
    have sB := jStep.inc eAT hAlt
    have r := rest _ sB.1
    unfold tRead
    rw [eB]
    have e1 : jset (tA I o) o 6 ((tA I o) o 6 + 1) o 6 = nI (a0 + 1) := by rw [jset_o, eA6, ea0, nI_1]
    obtain ⟨b1, b2, g1, g2, g3, g4⟩ := r.2.2.2.1
    have hb1 : b1 ≤ 60 := by omega
    rw [e1, nI_eq (by omega) (by omega)] at g1
    have t := sB.tr r
    exact ⟨⟨t.1, fun b hb => (t.2.1 b hb).trans (eAb b hb), t.2.2.1.trans eA5⟩, fun _ => ⟨a0, b2, ea0, g2, by omega, g4⟩⟩
