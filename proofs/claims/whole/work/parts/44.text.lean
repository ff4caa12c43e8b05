/-! THE TEXTS: an order is read and obeyed, on both sides -/
def Tq (l a : Nat) (A B : jI) : Prop := (A 117 1 = nI l ∧ B 120 5 = nI l ∧ A 117 3 = nI a ∧ B 120 6 = nI a) ∧ l ≤ 60 ∧ a ≤ l ∧ ∀ k, k < l → A 118 k = B 124 k ∧ ∃ c : Nat, 32 ≤ c ∧ c ≤ 126 ∧ B 124 k = nI c
theorem jset_self {I : jI} {a j : Nat} {x : Int32} (h : I a j = x) : jset I a j x = I := by
  subst h
  funext b k
  by_cases e : b = a ∧ k = j
  · obtain ⟨rfl, rfl⟩ := e; exact jset_eq
  · simp [jset, e]
/-- only these two have changed: the place in the text, and the flag -/
def cOnly (A A' : jI) : Prop := (∀ x, x ≠ 117 → A' x = A x) ∧ ∀ j, j ≠ 3 → A' 117 j = A 117 j
def bOnly (B B' : jI) : Prop := (∀ x, x ≠ 120 → B' x = B x) ∧ ∀ j, j ≠ 6 → j ≠ 10 → B' 120 j = B 120 j
theorem cOnly.rf {A : jI} : cOnly A A := ⟨fun _ _ => rfl, fun _ _ => rfl⟩
theorem bOnly.rf {A : jI} : bOnly A A := ⟨fun _ _ => rfl, fun _ _ _ => rfl⟩
theorem cOnly.tr {A B C : jI} (h1 : cOnly A B) (h2 : cOnly B C) : cOnly A C := ⟨fun x h => (h2.1 x h).trans (h1.1 x h), fun j h => (h2.2 j h).trans (h1.2 j h)⟩
theorem bOnly.tr {A B C : jI} (h1 : bOnly A B) (h2 : bOnly B C) : bOnly A C := ⟨fun x h => (h2.1 x h).trans (h1.1 x h), fun j h h' => (h2.2 j h h').trans (h1.2 j h h')⟩
theorem cOnly.set {A : jI} {x : Int32} : cOnly A (jset A 117 3 x) := ⟨fun x h => jset_nf h, fun j h => jset_nj h⟩
theorem bOnly.set {B : jI} {k : Nat} {x : Int32} (h : k = 6 ∨ k = 10) : bOnly B (jset B 120 k x) := ⟨fun x h => jset_nf h, fun j h1 h2 => jset_nj (by omega)⟩
section PT
variable {l a : Nat} {A B : jI}
theorem Tq.setC (T : Tq l a A B) {j : Nat} {x : Int32} (h : j ≠ 1 ∧ j ≠ 3) : Tq l a (jset A 117 j x) B := by
  obtain ⟨⟨t1, t2, t3, t4⟩, t5⟩ := T
  exact ⟨⟨by rw [jset_nj (Ne.symm h.1)]; exact t1, t2, by rw [jset_nj (Ne.symm h.2)]; exact t3, t4⟩, t5⟩
theorem Tq.setB (T : Tq l a A B) {j : Nat} {x : Int32} (h : j ≠ 5 ∧ j ≠ 6) : Tq l a A (jset B 120 j x) := by
  obtain ⟨⟨t1, t2, t3, t4⟩, t5⟩ := T
  exact ⟨⟨t1, by rw [jset_nj (Ne.symm h.1)]; exact t2, t3, by rw [jset_nj (Ne.symm h.2)]; exact t4⟩, t5⟩
theorem Tq.go (T : Tq l a A B) (h : a < l) : Tq l (a + 1) (jset A 117 3 (A 117 3 + 1)) (jset B 120 6 (B 120 6 + 1)) := by
  obtain ⟨⟨t1, t2, t3, t4⟩, t5, t6, t7⟩ := T
  exact ⟨⟨by rw [jset_nj (by decide)]; exact t1, by rw [jset_nj (by decide)]; exact t2, by rw [jset_eq, t3, nI_1], by rw [jset_eq, t4, nI_1]⟩, t5, h, t7⟩
theorem sgn (T : Tq l a A B) : fX4_signHere A 117 = fX7_here B 120 ∧ ((a = l ∧ fX7_here B 120 = -1) ∨ (a < l ∧ ∃ c : Nat, 32 ≤ c ∧ c ≤ 126 ∧ fX7_here B 120 = nI c)) := by
  obtain ⟨⟨t1, t2, t3, t4⟩, t5, t6, t7⟩ := T
  unfold fX4_signHere fX7_here
  rw [t1, t2, t3, t4, if_neg (nI_pos (by omega))]
  by_cases c : a = l
  · rw [if_pos (nI_le (by omega) (by omega)), if_pos (nI_le (by omega) (by omega))]
    exact ⟨rfl, Or.inl ⟨c, rfl⟩⟩
  · have e : ¬ nI l ≤ nI a := nI_ge (by omega) (by omega)
    rw [if_neg e, if_neg e, if_neg (show ¬ (60 : Int32) ≤ nI a from nI_ge (a := a) (b := 60) (by omega) (by decide)), nI_clamp (by omega)]
    obtain ⟨u1, u2⟩ := t7 a (by omega)
    exact ⟨u1, Or.inr ⟨by omega, u2⟩⟩
theorem isD (T : Tq l a A B) : (fX7_isDigit B 120 = 0 ∧ fX4_readDigit A 117 = (-1, A)) ∨ (fX7_isDigit B 120 = 1 ∧ a < l ∧ ∃ d : Nat, d ≤ 9 ∧ fX7_here B 120 = nI (48 + d) ∧ fX4_readDigit A 117 = (nI d, jset A 117 3 (A 117 3 + 1))) := by
  obtain ⟨e, h⟩ := sgn T
  unfold fX7_isDigit fX4_readDigit fX7_in
  rw [e]
  rcases h with ⟨-, h⟩ | ⟨hl, c, c1, c2, h⟩
  · rw [h]; exact Or.inl ⟨by decide, by rw [if_pos (by decide)]⟩
  · rw [h]
    by_cases k1 : c < 48
    · rw [if_pos (show nI c < 48 from nI_lt (a := c) (b := 48) k1 (by decide)), if_pos (show nI c < 48 from nI_lt (a := c) (b := 48) k1 (by decide))]
      exact Or.inl ⟨rfl, rfl⟩
    · rw [if_neg (show ¬ nI c < 48 from nI_nlt (a := c) (b := 48) (by omega) (by omega)), if_neg (show ¬ nI c < 48 from nI_nlt (a := c) (b := 48) (by omega) (by omega))]
      by_cases k2 : c ≤ 57
      · rw [if_neg (show ¬ (57 : Int32) < nI c from nI_nlt (a := 57) (b := c) k2 (by omega)), if_pos (show nI c ≤ 57 from nI_le (a := c) (b := 57) k2 (by decide))]
        refine Or.inr ⟨rfl, hl, c - 48, by omega, ?_, ?_⟩
        · rw [show 48 + (c - 48) = c by omega]
        · rw [show nI c - 48 = nI (c - 48) from pk_sub (a := c) (b := 48) (by omega)]
      · rw [if_pos (show (57 : Int32) < nI c from nI_lt (a := 57) (b := c) (by omega) (by omega)), if_neg (show ¬ nI c ≤ 57 from nI_ge (a := 57) (b := c) (by omega) (by omega))]
        exact Or.inl ⟨rfl, rfl⟩
theorem m_num0 (h : B 120 10 = 0) : fX7_number B 120 = (0, B) := by
  unfold fX7_number
  rw [if_pos h, if_pos jset_eq, jset_self h]
theorem m_sgn0 {x : Int32} (h : B 120 10 = 0) : fX7_takesSign B 120 x = B := by
  unfold fX7_takesSign
  rw [if_pos h, if_pos jset_eq, jset_self h, Int32.add_zero, jset_self rfl]
theorem r_num (T : Tq l a A B) (hf : B 120 10 = 1) : cOnly A (fX4_readNumber A 117).2 ∧ bOnly B (fX7_number B 120).2 ∧ ∃ a', a ≤ a' ∧ Tq l a' (fX4_readNumber A 117).2 (fX7_number B 120).2 ∧ (((fX4_readNumber A 117).1 = -1 ∧ (fX7_number B 120).2 120 10 = 0) ∨ ((fX7_number B 120).2 120 10 = 1 ∧ ¬ (fX4_readNumber A 117).1 = -1 ∧ (fX4_readNumber A 117).1 = (fX7_number B 120).1)) := by
  have n0 : ¬ B 120 10 = 0 := by rw [hf]; decide
  have n1 : ∀ d : Nat, d ≤ 99 → ¬ nI d = -1 := fun d hd q => nI_pos (n := d) (by omega) (by rw [q]; decide)
  have o0 : ¬ (1 : Int32) = 0 := by decide
  rcases isD T with ⟨d1, d2⟩ | ⟨d1, dl, d, dd, d2, d3⟩
  · have eN : fX4_readNumber A 117 = (-1, A) := by
      unfold fX4_readNumber
      rw [d2, if_pos rfl]
    have eM : fX7_number B 120 = (0, jset B 120 10 0) := by
      unfold fX7_number
      rw [if_neg n0, if_pos d1, if_pos jset_eq]
    rw [eN, eM]
    dsimp only
    exact ⟨cOnly.rf, bOnly.set (Or.inr rfl), a, Nat.le_refl _, T.setB (by decide), Or.inl ⟨rfl, by rw [jset_eq]⟩⟩
  · have e1 : jset B 120 10 1 = B := jset_self hf
    have f1 : ¬ (jset B 120 6 (B 120 6 + 1)) 120 10 = 0 := by rw [jset_nj (by decide), hf]; decide
    have T1 := T.go dl
    have v1 : (10 : Int32) * 0 + nI (48 + d) - 48 = nI d := by
      rw [show (10 : Int32) * 0 = nI 0 from rfl, nI_add, Nat.zero_add]
      exact (pk_sub (a := 48 + d) (b := 48) (by omega)).trans (by rw [Nat.add_sub_cancel_left])
    rcases isD T1 with ⟨u1, u2⟩ | ⟨u1, ul, v, vv, u2, u3⟩
    · have eN : fX4_readNumber A 117 = (nI d, jset A 117 3 (A 117 3 + 1)) := by
        unfold fX4_readNumber
        rw [d3]
        simp only
        rw [u2, if_neg (n1 d (by omega)), if_pos rfl]
      have eM : fX7_number B 120 = (nI d, jset B 120 6 (B 120 6 + 1)) := by
        unfold fX7_number
        rw [if_neg n0, if_neg (show ¬ fX7_isDigit B 120 = 0 by rw [d1]; exact o0), e1, if_neg n0, if_neg (show ¬ fX7_isDigit B 120 = 0 by rw [d1]; exact o0), if_neg f1, if_pos u1, d2, v1]
      rw [eN, eM]
      dsimp only
      exact ⟨cOnly.set, bOnly.set (Or.inl rfl), a + 1, by omega, T1, Or.inr ⟨by rw [jset_nj (by decide)]; exact hf, n1 d (by omega), rfl⟩⟩
    · have v2 : (10 : Int32) * nI d + nI (48 + v) - 48 = nI (10 * d + v) := by
        rw [show (10 : Int32) = nI 10 from rfl, pk_mul, nI_add]
        exact (pk_sub (a := 10 * d + (48 + v)) (b := 48) (by omega)).trans (by rw [show 10 * d + (48 + v) - 48 = 10 * d + v by omega])
      have v3 : nI d * 10 + nI v = nI (10 * d + v) := by
        rw [show (10 : Int32) = nI 10 from rfl, pk_mul, nI_add, Nat.mul_comm]
      have eN : fX4_readNumber A 117 = (nI (10 * d + v), jset (jset A 117 3 (A 117 3 + 1)) 117 3 ((jset A 117 3 (A 117 3 + 1)) 117 3 + 1)) := by
        unfold fX4_readNumber
        rw [d3]
        simp only
        rw [u3, if_neg (n1 d (by omega)), if_neg (n1 v (by omega)), v3]
      have eM : fX7_number B 120 = (nI (10 * d + v), jset (jset B 120 6 (B 120 6 + 1)) 120 6 ((jset B 120 6 (B 120 6 + 1)) 120 6 + 1)) := by
        unfold fX7_number
        rw [if_neg n0, if_neg (show ¬ fX7_isDigit B 120 = 0 by rw [d1]; exact o0), e1, if_neg n0, if_neg (show ¬ fX7_isDigit B 120 = 0 by rw [d1]; exact o0), if_neg f1, if_neg (show ¬ fX7_isDigit (jset B 120 6 (B 120 6 + 1)) 120 = 0 by rw [u1]; exact o0), d2, v1, u2, v2]
      rw [eN, eM]
      dsimp only
      refine ⟨cOnly.set.tr cOnly.set, (bOnly.set (Or.inl rfl)).tr (bOnly.set (Or.inl rfl)), a + 2, by omega, T1.go ul, Or.inr ⟨?_, n1 _ (by omega), rfl⟩⟩
      rw [jset_nj (by decide), jset_nj (by decide)]; exact hf
theorem r_sgn (T : Tq l a A B) (hf : B 120 10 = 1) {c : Nat} (hc : 32 ≤ c) (hc2 : c ≤ 126) : cOnly A (fX4_readSign A 117 (nI c)).2 ∧ bOnly B (fX7_takesSign B 120 (nI c)) ∧ ∃ a', a ≤ a' ∧ Tq l a' (fX4_readSign A 117 (nI c)).2 (fX7_takesSign B 120 (nI c)) ∧ (((fX4_readSign A 117 (nI c)).1 = 0 ∧ (fX7_takesSign B 120 (nI c)) 120 10 = 0) ∨ ((fX4_readSign A 117 (nI c)).1 = 1 ∧ (fX7_takesSign B 120 (nI c)) 120 10 = 1)) := by
  have n0 : ¬ B 120 10 = 0 := by rw [hf]; decide
  obtain ⟨e, h⟩ := sgn T
  unfold fX4_readSign fX7_takesSign
  rw [if_neg n0, e]
  by_cases k : fX7_here B 120 = nI c
  · have al : a < l := by
      rcases h with ⟨-, h⟩ | ⟨h, -⟩
      · rw [h] at k
        exact absurd (show nI c < 0 by rw [← k]; decide) (nI_pos (by omega))
      · exact h
    rw [if_pos k, if_pos k, jset_self hf, if_neg n0]
    exact ⟨cOnly.set, bOnly.set (Or.inl rfl), a + 1, by omega, T.go al, Or.inr ⟨rfl, by rw [jset_nj (by decide)]; exact hf⟩⟩
  · rw [if_neg k, if_neg k, if_pos jset_eq, Int32.add_zero, jset_self rfl]
    exact ⟨cOnly.rf, bOnly.set (Or.inr rfl), a, Nat.le_refl _, T.setB (by decide), Or.inl ⟨rfl, jset_eq⟩⟩
end PT
