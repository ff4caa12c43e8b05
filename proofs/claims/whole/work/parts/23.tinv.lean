/-- the rows of the reference outside of its numbers are as they were -/
def jOn (I J : jI) (o : Nat) : Prop := ∀ b, b ≠ o + 1 → J b = I b
theorem jOn.rf {I : jI} {o : Nat} : jOn I I o := fun _ _ => rfl
theorem jOn.tr {I J K : jI} {o : Nat} (h1 : jOn I J o) (h2 : jOn J K o) : jOn I K o := fun b hb => (h2 b hb).trans (h1 b hb)
theorem jOn.put {I J : jI} {o k : Nat} {x : Int32} (h : jOn I J o) : jOn I (jset J (o + 1) k x) o := h.tr (fun b hb => by funext q; simp [jset, hb])
theorem jOn.lay {I J : jI} {o : Nat} {b w v : Int32} (h : jOn I J o) : jOn I (fX7_lays J o b w v) o := by unfold fX7_lays; exact h.put
theorem jOn.count {I J : jI} {o : Nat} {b w : Int32} (h : jOn I J o) : jOn I (fX7_counts J o b w) o := by unfold fX7_counts; exact h.put
theorem jOn.pay {I J : jI} {o : Nat} {b w : Int32} (h : jOn I J o) : jOn I (fX7_pays J o b w) o := by unfold fX7_pays; exact h.put.put
theorem jOn.cool {I J : jI} {o : Nat} {b : Int32} (h : jOn I J o) : jOn I (fX7_cools J o b) o := by unfold fX7_cools; exact h.lay.lay
theorem jOn.comes {I : jI} {o : Nat} {x : Int32} : jOn I (fX7_comes I o x).2 o := by
  unfold fX7_comes
  repeat' split
  · exact jOn.rf
  · exact jOn.rf
  · exact jOn.rf.put.lay.lay.lay.lay.lay.lay.lay.lay.lay.lay.lay.lay.lay.lay.lay.lay.lay
theorem jOn.inspects {I : jI} {o : Nat} {x y : Int32} : jOn I (fX7_inspects I o x y).2 o := by
  unfold fX7_inspects
  repeat' split
  all_goals first
    | exact jOn.rf
    | exact jOn.rf.pay.count.count.put.lay.lay.lay.lay
    | exact jOn.rf.pay.count.count.put.lay.lay.lay.count.put
theorem jOn.fires {I : jI} {o : Nat} {x : Int32} : jOn I (fX7_fires I o x).2 o := by
  unfold fX7_fires
  repeat' split
  all_goals first | exact jOn.rf | exact jOn.rf.lay
theorem jOn.puts {I : jI} {o : Nat} {x : Int32} : jOn I (fX7_puts I o x).2 o := by
  unfold fX7_puts
  repeat' split
  all_goals first | exact jOn.rf | exact jOn.rf.cool
theorem jOn.sends {I : jI} {o : Nat} {x : Int32} : jOn I (fX7_sends I o x).2 o := by
  unfold fX7_sends
  repeat' split
  all_goals first | exact jOn.rf | exact jOn.rf.pay.put.lay.lay
theorem jOn.week {I : jI} {o : Nat} (hI : jMInv I o) : jOn I (fX7_week I o).2 o := fun b hb => (fX7_week_keep hI).1 b hb
theorem jOn.passN {I : jI} {o : Nat} (hI : jMInv I o) : ∀ k, jOn I (mPassN I o k).2 o
  | 0 => jOn.rf
  | k + 1 => (jOn.passN hI k).tr (jOn.week (mPassN_inv hI k))
theorem jOn.passes {I : jI} {o : Nat} {x : Int32} (hI : jMInv I o) : jOn I (fX7_passes I o x).2 o := by
  unfold fX7_passes
  repeat' split
  all_goals first | exact jOn.rf | exact jOn.passN hI _
theorem jOn.called {I : jI} {o : Nat} {x : Int32} (hI : jMInv I o) : jOn I (fX7_called I o x).2 o := by
  unfold fX7_called
  repeat' split
  all_goals first | exact jOn.comes | exact jOn.inspects | exact jOn.fires | exact jOn.puts | exact jOn.sends | exact jOn.passes hI
/-! the invariant of the numbers is kept -/
theorem jMInv.row {I J : jI} {o : Nat} (h : jMInv I o) (e : J (o + 1) = I (o + 1)) : jMInv J o := by
  unfold jMInv
  rw [e]
  exact h
theorem jMInv.put {I : jI} {o k : Nat} {x : Int32} (h : jMInv I o) (hk : k ≠ 0 ∧ k ≠ 1 ∧ ∀ j, j < 6 → k ≠ 111 + 5 * j) : jMInv (jset I (o + 1) k x) o := by
  obtain ⟨h1, h2, h3⟩ := h
  refine ⟨?_, ?_, fun j hj => ?_⟩
  · simp only [jset, true_and, if_neg (Ne.symm hk.1)]; exact h1
  · simp only [jset, true_and, if_neg (Ne.symm hk.2.1)]; exact h2
  · simp only [jset, true_and, if_neg (Ne.symm (hk.2.2 j hj))]; exact h3 j hj
theorem jMInv.lay {I : jI} {o : Nat} {b w v : Int32} (h : jMInv I o) (hb : jB8 b) {k : Nat} (hw : w = nI k) (hk : k < 12) : jMInv (fX7_lays I o b w v) o := (jBo.rf.lay hb hw hk).inv h
theorem jby_n {b w : Int32} {i k : Nat} (hb : b = nI i) (hi : i < 6) (hw : w = nI k) (hk : k < 5) : (111 + 5 * b + w).toNatClampNeg = 111 + 5 * i + k := by
  subst hb; subst hw
  exact jlin_n 111 5 i k 141 (by omega) (by decide)
theorem jMInv.count {I : jI} {o : Nat} {b w : Int32} (h : jMInv I o) (hb : jB6 b) {k : Nat} (hw : w = nI k) (hk : 1 ≤ k ∧ k < 5) : jMInv (fX7_counts I o b w) o := by
  obtain ⟨i, hi, he⟩ := hb
  unfold fX7_counts
  rw [jby_n he hi hw hk.2]
  exact h.put ⟨by omega, by omega, fun j hj => by omega⟩
theorem jMInv.pay {I : jI} {o : Nat} {b w : Int32} (h : jMInv I o) {k : Nat} (hb : b = nI k) (hk : k < 4) : jMInv (fX7_pays I o b w) o := by
  unfold fX7_pays
  have e : (11 + b).toNatClampNeg = 11 + k := by
    subst hb
    rw [show (11 : Int32) = nI 11 from rfl, nI_add]
    exact nI_clamp (by omega)
  rw [e]
  exact (h.put ⟨by decide, by decide, fun j hj => by show (14 : Nat) ≠ _; omega⟩).put ⟨by omega, by omega, fun j hj => by omega⟩
theorem jMInv.comes {I : jI} {o : Nat} {x : Int32} (h : jMInv I o) : jMInv (fX7_comes I o x).2 o := by
  unfold fX7_comes
  split
  · exact h
  · split
    · exact h
    · rename_i h8
      have hb := jcomesB h h8
      have h9 : jMInv (jset I (o + 1) ((0 : Int32).toNatClampNeg) (I (o + 1) ((0 : Int32).toNatClampNeg) + 1)) o := by
        obtain ⟨⟨n, hn, e⟩, h2, h3⟩ := h
        obtain ⟨i, hi, he⟩ := hb
        have e' : I (o + 1) ((0 : Int32).toNatClampNeg) = nI i := he
        refine ⟨⟨i + 1, by omega, ?_⟩, ?_, fun j hj => ?_⟩
        · rw [e', nI_1]; simp only [jset, true_and]; rfl
        · simp only [jset, true_and, show ¬ (1 = (0 : Int32).toNatClampNeg) from by decide, if_false]; exact h2
        · have hne : ¬ (111 + 5 * j = (0 : Int32).toNatClampNeg) := by show ¬ (111 + 5 * j = 0); omega
          simp only [jset, true_and, hne, if_false]; exact h3 j hj
      refine jMInv.lay ?_ hb (k := 9) rfl (by decide)
      refine jMInv.lay ?_ hb (k := 7) rfl (by decide)
      refine jMInv.lay ?_ hb (k := 4) rfl (by decide)
      refine jMInv.lay ?_ hb (k := 1) rfl (by decide)
      refine jMInv.lay ?_ hb (k := 0) rfl (by decide)
      refine jMInv.lay ?_ hb (k := 11) rfl (by decide)
      refine jMInv.lay ?_ hb (k := 10) rfl (by decide)
      refine jMInv.lay ?_ hb (k := 9) rfl (by decide)
      refine jMInv.lay ?_ hb (k := 8) rfl (by decide)
      refine jMInv.lay ?_ hb (k := 7) rfl (by decide)
      refine jMInv.lay ?_ hb (k := 6) rfl (by decide)
      refine jMInv.lay ?_ hb (k := 5) rfl (by decide)
      refine jMInv.lay ?_ hb (k := 4) rfl (by decide)
      refine jMInv.lay ?_ hb (k := 3) rfl (by decide)
      refine jMInv.lay ?_ hb (k := 2) rfl (by decide)
      refine jMInv.lay ?_ hb (k := 1) rfl (by decide)
      exact jMInv.lay h9 hb (k := 0) rfl (by decide)
theorem jB2.n {b : Int32} (h : jB2 b) : ∃ k : Nat, k < 4 ∧ b = nI k := by
  rcases h with rfl | rfl
  · exact ⟨0, by decide, rfl⟩
  · exact ⟨1, by decide, rfl⟩
theorem jMInv.inspects {I : jI} {o : Nat} {x y : Int32} (h : jMInv I o) : jMInv (fX7_inspects I o x y).2 o := by
  unfold fX7_inspects
  split
  · exact h
  · rename_i hx
    split
    · exact h
    · rename_i hy
      have hb := jisB h hx
      have hi := jisI h hy
      obtain ⟨k, hk, ek⟩ := (jits h hi).n
      have h5 : ∀ {J : jI} {v : Int32}, jMInv J o → jMInv (jset J (o + 1) ((5 : Int32).toNatClampNeg) v) o := fun hJ => hJ.put ⟨by decide, by decide, fun j hj => by show (5 : Nat) ≠ _; omega⟩
      have h6 : ∀ {J : jI} {v : Int32}, jMInv J o → jMInv (jset J (o + 1) ((6 : Int32).toNatClampNeg) v) o := fun hJ => hJ.put ⟨by decide, by decide, fun j hj => by show (6 : Nat) ≠ _; omega⟩
      have h1 := ((h.pay (w := I (o + 1) ((9 : Int32).toNatClampNeg)) ek hk).count hi (k := 2) (w := 2) rfl (by decide)).count hi (k := 3) (w := 3) rfl (by decide)
      repeat' split
      all_goals first
        | exact h
        | exact ((((h5 h1).lay hb (k := 9) rfl (by decide)).lay hb (k := 10) rfl (by decide)).lay hb (k := 11) rfl (by decide)).lay hb (k := 6) rfl (by decide)
        | exact h6 (((((h5 h1).lay hb (k := 9) rfl (by decide)).lay hb (k := 10) rfl (by decide)).lay hb (k := 11) rfl (by decide)).count hi (k := 4) rfl (by decide))
theorem jMInv.fires {I : jI} {o : Nat} {x : Int32} (h : jMInv I o) : jMInv (fX7_fires I o x).2 o := by
  unfold fX7_fires
  split
  · exact h
  · rename_i hx
    split
    · exact h.lay (jisB h hx) (k := 3) rfl (by decide)
    · exact h
theorem jMInv.puts {I : jI} {o : Nat} {x : Int32} (h : jMInv I o) : jMInv (fX7_puts I o x).2 o := by
  unfold fX7_puts
  split
  · exact h
  · rename_i hx
    split
    · exact (h.lay (jisB h hx) (k := 3) rfl (by decide)).lay (jisB h hx) (k := 4) rfl (by decide)
    · exact h
theorem jMInv.sends {I : jI} {o : Nat} {x : Int32} (h : jMInv I o) : jMInv (fX7_sends I o x).2 o := by
  unfold fX7_sends
  split
  · exact h
  · rename_i hx
    split
    · have hb := jisB h hx
      have h4 : ∀ {J : jI} {v : Int32}, jMInv J o → jMInv (jset J (o + 1) ((4 : Int32).toNatClampNeg) v) o := fun hJ => hJ.put ⟨by decide, by decide, fun j hj => by show (4 : Nat) ≠ _; omega⟩
      exact ((h4 (h.pay (k := 2) rfl (by decide))).lay hb (k := 3) rfl (by decide)).lay hb (k := 5) rfl (by decide)
    · exact h
theorem jMInv.passes {I : jI} {o : Nat} {x : Int32} (h : jMInv I o) : jMInv (fX7_passes I o x).2 o := by
  unfold fX7_passes
  repeat' split
  all_goals first | exact h | exact mPassN_inv h _
theorem jMInv.called {I : jI} {o : Nat} {x : Int32} (h : jMInv I o) : jMInv (fX7_called I o x).2 o := by
  unfold fX7_called
  repeat' split
  all_goals first | exact h.comes | exact h.inspects | exact h.fires | exact h.puts | exact h.sends | exact h.passes
