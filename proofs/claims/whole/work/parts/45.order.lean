/-! AN ORDER IS READ, on both sides -/
def isOrd (s : Int32) : Prop := s = 98 ∨ s = 105 ∨ s = 102 ∨ s = 111 ∨ s = 114 ∨ s = 119
/-- what the reading leaves alone -/
def cRd (A A' : jI) : Prop := (∀ x, x ≠ 117 → A' x = A x) ∧ A' 117 1 = A 117 1
def bRd (B B' : jI) : Prop := (∀ x, x ≠ 120 → B' x = B x) ∧ B' 120 3 = B 120 3 ∧ B' 120 5 = B 120 5 ∧ B' 120 8 = B 120 8
theorem bRd.tr {A B C : jI} (h1 : bRd A B) (h2 : bRd B C) : bRd A C := ⟨fun x h => (h2.1 x h).trans (h1.1 x h), h2.2.1.trans h1.2.1, h2.2.2.1.trans h1.2.2.1, h2.2.2.2.trans h1.2.2.2⟩
theorem cRd.tr {A B C : jI} (h1 : cRd A B) (h2 : cRd B C) : cRd A C := ⟨fun x h => (h2.1 x h).trans (h1.1 x h), h2.2.trans h1.2⟩
theorem cOnly.rd {A B : jI} (h : cOnly A B) : cRd A B := ⟨h.1, h.2 1 (by decide)⟩
theorem bOnly.rd {A B : jI} (h : bOnly A B) : bRd A B := ⟨h.1, h.2 3 (by decide) (by decide), h.2 5 (by decide) (by decide), h.2 8 (by decide) (by decide)⟩
theorem cRd.set {A : jI} {j : Nat} {x : Int32} (h : j ≠ 1) : cRd A (jset A 117 j x) := ⟨fun y hy => jset_nf hy, jset_nj (Ne.symm h)⟩
theorem bRd.set {B : jI} {j : Nat} {x : Int32} (h : j ≠ 3 ∧ j ≠ 5 ∧ j ≠ 8) : bRd B (jset B 120 j x) := ⟨fun y hy => jset_nf hy, jset_nj (Ne.symm h.1), jset_nj (Ne.symm h.2.1), jset_nj (Ne.symm h.2.2)⟩
section PO
variable {l a : Nat} {A B : jI} {sg : Int32}
/-- the rest of a form that is broken -/
theorem m_restD (h : B 120 10 = 0) : bRd B (tD B 120 sg) ∧ (tD B 120 sg) 120 10 = 0 ∧ (tD B 120 sg) 120 6 = B 120 6 ∧ (tD B 120 sg) 120 7 = B 120 7 := by
  unfold tD
  rw [m_sgn0 h, m_num0 h]
  split
  · exact ⟨bRd.set (by decide), by rw [jset_nj (by decide)]; exact h, jset_nj (by decide), jset_nj (by decide)⟩
  · exact ⟨⟨fun _ _ => rfl, rfl, rfl, rfl⟩, h, rfl, rfl⟩
theorem m_restE (h : B 120 10 = 0) : tE B 120 = B := m_sgn0 h
theorem m_rest (h : B 120 10 = 0) : bRd B (tE (tD B 120 sg) 120) ∧ (tE (tD B 120 sg) 120) 120 10 = 0 ∧ (tE (tD B 120 sg) 120) 120 6 = B 120 6 ∧ (tE (tD B 120 sg) 120) 120 7 = B 120 7 := by
  have h1 := m_restD (sg := sg) h
  rw [m_restE h1.2.1]
  exact h1
theorem Tq.b6 (T : Tq l a A B) {B' : jI} (hr : bRd B B') (h6 : B' 120 6 = B 120 6) : Tq l a A B' := by
  obtain ⟨⟨t1, t2, t3, t4⟩, t5, t6, t7⟩ := T
  refine ⟨⟨t1, hr.2.2.1.trans t2, t3, h6.trans t4⟩, t5, t6, fun k hk => ?_⟩
  rw [hr.1 124 (by decide)]
  exact t7 k hk
theorem m_ord (I : jI) (x : Int32) : (fX7_isOrder I x = 1 ∧ isOrd x) ∨ (fX7_isOrder I x = 0 ∧ ¬ isOrd x) := by
  unfold fX7_isOrder isOrd
  by_cases c1 : x = 98
  · rw [if_pos c1]; exact Or.inl ⟨rfl, Or.inl c1⟩
  · rw [if_neg c1]
    by_cases c2 : x = 105
    · rw [if_pos c2]; exact Or.inl ⟨rfl, Or.inr (Or.inl c2)⟩
    · rw [if_neg c2]
      by_cases c3 : x = 102
      · rw [if_pos c3]; exact Or.inl ⟨rfl, Or.inr (Or.inr (Or.inl c3))⟩
      · rw [if_neg c3]
        by_cases c4 : x = 111
        · rw [if_pos c4]; exact Or.inl ⟨rfl, Or.inr (Or.inr (Or.inr (Or.inl c4)))⟩
        · rw [if_neg c4]
          by_cases c5 : x = 114
          · rw [if_pos c5]; exact Or.inl ⟨rfl, Or.inr (Or.inr (Or.inr (Or.inr (Or.inl c5))))⟩
          · rw [if_neg c5]
            by_cases c6 : x = 119
            · rw [if_pos c6]; exact Or.inl ⟨rfl, Or.inr (Or.inr (Or.inr (Or.inr (Or.inr c6))))⟩
            · rw [if_neg c6]
              refine Or.inr ⟨rfl, ?_⟩
              rintro (h | h | h | h | h | h)
              · exact c1 h
              · exact c2 h
              · exact c3 h
              · exact c4 h
              · exact c5 h
              · exact c6 h
theorem c_kind (h : isOrd (fX4_signHere A 117)) : fX4_readKind A 117 = (1, jset (jset A 117 4 (fX4_signHere A 117)) 117 3 (A 117 3 + 1)) := by
  have e : ((fX4_signHere A 117).toUInt32 % 65536).toInt32 = fX4_signHere A 117 := by
    rcases h with h | h | h | h | h | h <;> rw [h] <;> decide
  unfold fX4_readKind
  rw [e, jset_nj (show (3 : Nat) ≠ 4 by decide)]
  by_cases c1 : fX4_signHere A 117 = 98
  · rw [if_pos c1]
  · rw [if_neg c1]
    by_cases c2 : fX4_signHere A 117 = 102
    · rw [if_pos c2]
    · rw [if_neg c2]
      by_cases c3 : fX4_signHere A 117 = 105
      · rw [if_pos c3]
      · rw [if_neg c3]
        by_cases c4 : fX4_signHere A 117 = 111
        · rw [if_pos c4]
        · rw [if_neg c4]
          by_cases c5 : fX4_signHere A 117 = 114
          · rw [if_pos c5]
          · rw [if_neg c5]
            by_cases c6 : fX4_signHere A 117 = 119
            · rw [if_pos c6]
            · exfalso
              rcases h with h | h | h | h | h | h
              · exact c1 h
              · exact c3 h
              · exact c2 h
              · exact c4 h
              · exact c5 h
              · exact c6 h
theorem c_kind0 (h : ¬ isOrd (fX4_signHere A 117)) : fX4_readKind A 117 = (0, A) := by
  unfold fX4_readKind
  rw [if_neg (fun q => h (Or.inl q)), if_neg (fun q => h (Or.inr (Or.inr (Or.inl q)))), if_neg (fun q => h (Or.inr (Or.inl q))), if_neg (fun q => h (Or.inr (Or.inr (Or.inr (Or.inl q))))), if_neg (fun q => h (Or.inr (Or.inr (Or.inr (Or.inr (Or.inl q)))))), if_neg (fun q => h (Or.inr (Or.inr (Or.inr (Or.inr (Or.inr q))))))]
/-- the class's reading, from behind the sign on -/
def cRest (A : jI) : Int32 × jI :=
  if (fX4_readNumber A 117).1 = -1 then (0, jset (fX4_readNumber A 117).2 117 5 (fX4_readNumber A 117).1)
  else if (fX4_readNumber A 117).2 117 4 = 105 then
    (if (fX4_readSign (jset (jset (fX4_readNumber A 117).2 117 5 (fX4_readNumber A 117).1) 117 6 0) 117 44).1 = 0 then (0, (fX4_readSign (jset (jset (fX4_readNumber A 117).2 117 5 (fX4_readNumber A 117).1) 117 6 0) 117 44).2)
     else if (fX4_readNumber (fX4_readSign (jset (jset (fX4_readNumber A 117).2 117 5 (fX4_readNumber A 117).1) 117 6 0) 117 44).2 117).1 = -1 then (0, jset (fX4_readNumber (fX4_readSign (jset (jset (fX4_readNumber A 117).2 117 5 (fX4_readNumber A 117).1) 117 6 0) 117 44).2 117).2 117 6 (fX4_readNumber (fX4_readSign (jset (jset (fX4_readNumber A 117).2 117 5 (fX4_readNumber A 117).1) 117 6 0) 117 44).2 117).1)
     else fX4_readSign (jset (fX4_readNumber (fX4_readSign (jset (jset (fX4_readNumber A 117).2 117 5 (fX4_readNumber A 117).1) 117 6 0) 117 44).2 117).2 117 6 (fX4_readNumber (fX4_readSign (jset (jset (fX4_readNumber A 117).2 117 5 (fX4_readNumber A 117).1) 117 6 0) 117 44).2 117).1) 117 59)
  else fX4_readSign (jset (jset (fX4_readNumber A 117).2 117 5 (fX4_readNumber A 117).1) 117 6 0) 117 59
theorem c_ord (A : jI) : fX4_readOrder A 117 = if (fX4_readKind (jset A 117 2 (A 117 3)) 117).1 = 0 then (0, (fX4_readKind (jset A 117 2 (A 117 3)) 117).2) else cRest (fX4_readKind (jset A 117 2 (A 117 3)) 117).2 := by
  unfold fX4_readOrder cRest
  simp only [jset_eq, jset_nj (show (4 : Nat) ≠ 6 by decide), jset_nj (show (4 : Nat) ≠ 5 by decide)]
end PO
