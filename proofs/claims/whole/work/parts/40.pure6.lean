/-- a boiler between the steps of a week: it may be under steam without a paper -/
def bS (w : Nat) (f t : Nat → Int32) (p : Nat) : Prop :=
  (f 0 = t (p + 0) ∧ f 1 = t (p + 1) ∧ f 2 = t (p + 2) ∧ f 3 = t (p + 3) ∧ f 4 = t (p + 4) ∧ f 6 = t (p + 6)) ∧
  (t (p + 3) = 0 ∨ t (p + 3) = 1 ∨ (t (p + 3) = 2 ∧ f 5 = t (p + 5) ∧ ∃ e : Nat, t (p + 5) = nI e ∧ w < e ∧ e ≤ 20000)) ∧
  ((f 7 = 1 ∧ f 8 = t (p + 9) ∧ f 9 = t (p + 10) ∧ f 10 = t (p + 11) ∧ (t (p + 9) = 0 ∨ t (p + 9) = 1) ∧ ∃ l : Nat, t (p + 11) = nI l ∧ l ≤ 20000) ∨ (f 7 = 0 ∧ t (p + 9) = -1)) ∧
  ((f 11 = 1 ∧ f 12 = t (p + 7) ∧ f 13 = t (p + 8) ∧ ∃ q : Nat, t (p + 7) = nI q ∧ q ≤ 20000) ∨ (f 11 = 0 ∧ t (p + 7) = -1)) ∧
  (∃ B : Nat, 2 ≤ B ∧ B ≤ 40 ∧ t (p + 0) = nI B) ∧ (∃ W : Nat, W ≤ 40 ∧ t (p + 1) = nI W) ∧ (∃ X : Nat, X ≤ 200 ∧ t (p + 2) = nI X) ∧ (t (p + 6) = 0 ∨ t (p + 6) = 1)
section PW
variable {w : Nat} {I J : jI} {h o c i : Nat}
theorem s_has (hb : bS w (I c) (J (o + 1)) (15 + 12 * i)) (hi : i < 8) : fX7_hasPaper J o (nI i) = I c 7 := by
  obtain ⟨-, -, hp, -⟩ := hb
  unfold fX7_hasPaper
  rw [of_9 hi]
  rcases hp with ⟨h1, h2, h3, h4, h5, h6⟩ | ⟨h1, h2⟩
  · rw [h1]
    rcases h5 with h5 | h5 <;> rw [h5] <;> rfl
  · rw [h1, h2]; rfl
theorem s_shut (hb : bS w (I c) (J (o + 1)) (15 + 12 * i)) (hi : i < 8) (hw : J (o + 1) 2 = nI w) : fX7_isShut J o (nI i) = fX0_isShutIn I c (nI w) := by
  obtain ⟨-, -, -, hs, -⟩ := hb
  unfold fX7_isShut fX0_isShutIn fX7_in
  rw [of_7 hi, of_8 hi, lc_2, hw]
  rcases hs with ⟨h1, h2, h3, q, h4, h5⟩ | ⟨h1, h2⟩
  · rw [h1, h2, h3, if_neg (show ¬ (1 : Int32) = 0 by decide)]
    have : ¬ J (o + 1) (15 + 12 * i + 7) < 0 := by rw [h4]; exact nI_pos (by omega)
    rw [if_neg this]
    by_cases c1 : nI w < J (o + 1) (15 + 12 * i + 7)
    · rw [if_pos c1, if_pos rfl]
    · rw [if_neg c1]
      by_cases c2 : J (o + 1) (15 + 12 * i + 8) < nI w
      · rw [if_pos c2, if_pos rfl]
      · rw [if_neg c2, if_neg (by decide)]
  · rw [h1, if_pos rfl]
    rw [if_pos]
    rw [h2]; decide
/-- nothing but this boiler's row of the reference -/
def mOnly (J K : jI) (o i : Nat) : Prop := (∀ a, a ≠ o + 1 → K a = J a) ∧ ∀ k, (k < 15 + 12 * i ∨ 15 + 12 * i + 12 ≤ k) → K (o + 1) k = J (o + 1) k
theorem mOnly.rf : mOnly J J o i := ⟨fun _ _ => rfl, fun _ _ => rfl⟩
theorem mOnly.set {K : jI} {k : Nat} {x : Int32} (h : mOnly J K o i) (hk : 15 + 12 * i ≤ k ∧ k < 15 + 12 * i + 12) : mOnly J (jset K (o + 1) k x) o i := ⟨fun a ha => (jset_nf ha).trans (h.1 a ha), fun q hq => (jset_nj (by omega)).trans (h.2 q hq)⟩
theorem mOnly.tr {K L : jI} (h1 : mOnly J K o i) (h2 : mOnly K L o i) : mOnly J L o i := ⟨fun a ha => (h2.1 a ha).trans (h1.1 a ha), fun q hq => (h2.2 q hq).trans (h1.2 q hq)⟩
theorem w_age (hb : bR w (I c) (J (o + 1)) (15 + 12 * i)) (hi : i < 8) : bR w (fX0_age I c c) (fX7_grows J o (nI i) (o + 1)) (15 + 12 * i) ∧ mOnly J (fX7_grows J o (nI i)) o i := by
  obtain ⟨⟨g0, g1, g2, g3, g4, g6⟩, ht, hp, hs, hB, ⟨W, W1, W2⟩, ⟨X, X1, X2⟩, h6⟩ := id hb
  unfold fX0_age fX7_grows
  simp only [of_3 hi, of_2 hi, of_1 hi, of_4 hi, lays_2 hi, lays_4 hi, g3, g1, g2, g4]
  rcases ht with t | ⟨t, t7⟩ | ⟨t, t5⟩
  · simp only [t, show ¬ (0 : Int32) = 1 by decide, ↓reduceIte]
    refine ⟨?_, mOnly.rf.set (by omega)⟩
    unfold bR
    simp (disch := omega) only [jset_eq, jset_nj]
    exact ⟨⟨g0, g1, g2, g3, trivial, g6⟩, Or.inl t, hp, hs, hB, ⟨W, W1, W2⟩, ⟨X, X1, X2⟩, h6⟩
  · have ea : J (o + 1) (15 + 12 * i + 2) + 1 + J (o + 1) (15 + 12 * i + 1) / 10 = nI (X + 1 + W / 10) := by
      rw [X2, W2, nI_1, show (10 : Int32) = nI 10 from rfl, pk_div (by omega) (by decide) (by decide), nI_add]
    simp only [ea, t, ↓reduceIte]
    have n10 : ¬ (1 : Int32) = 0 := by decide
    by_cases c1 : X + 1 + W / 10 ≤ 200
    · rw [if_pos (show nI (X + 1 + W / 10) ≤ 200 from nI_le (a := X + 1 + W / 10) (b := 200) c1 (by decide))]
      have e3 : jset J (o + 1) (15 + 12 * i + 2) (nI (X + 1 + W / 10)) (o + 1) (15 + 12 * i + 3) = 1 := by rw [jset_nj (by omega)]; exact t
      rw [e3, if_neg n10]
      refine ⟨?_, mOnly.rf.set (by omega)⟩
      have e2 : (if nI (X + 1 + W / 10) < 200 then nI (X + 1 + W / 10) else 200) = nI (X + 1 + W / 10) := by
        by_cases c2 : X + 1 + W / 10 < 200
        · rw [if_pos (show nI (X + 1 + W / 10) < 200 from nI_lt (a := X + 1 + W / 10) (b := 200) c2 (by decide))]
        · rw [if_neg (show ¬ nI (X + 1 + W / 10) < 200 from nI_nlt (a := X + 1 + W / 10) (b := 200) (by omega) (by omega)), show X + 1 + W / 10 = 200 by omega]; rfl
      rw [e2]
      unfold bR
      simp (disch := omega) only [jset_eq, jset_nj]
      exact ⟨⟨g0, g1, trivial, g3, g4, g6⟩, Or.inr (Or.inl ⟨t, t7⟩), hp, hs, hB, ⟨W, W1, W2⟩, ⟨_, c1, rfl⟩, h6⟩
    · rw [if_neg (show ¬ nI (X + 1 + W / 10) ≤ 200 from nI_ge (a := 200) (b := X + 1 + W / 10) (by omega) (by omega))]
      have e3 : jset J (o + 1) (15 + 12 * i + 2) 200 (o + 1) (15 + 12 * i + 3) = 1 := by rw [jset_nj (by omega)]; exact t
      rw [e3, if_neg n10]
      refine ⟨?_, mOnly.rf.set (by omega)⟩
      rw [if_neg (show ¬ nI (X + 1 + W / 10) < 200 from nI_nlt (a := X + 1 + W / 10) (b := 200) (by omega) (by omega))]
      unfold bR
      simp (disch := omega) only [jset_eq, jset_nj]
      exact ⟨⟨g0, g1, trivial, g3, g4, g6⟩, Or.inr (Or.inl ⟨t, t7⟩), hp, hs, hB, ⟨W, W1, W2⟩, ⟨200, by omega, rfl⟩, h6⟩
  · simp only [t, show ¬ (2 : Int32) = 1 by decide, show ¬ (2 : Int32) = 0 by decide, ↓reduceIte]
    exact ⟨hb, mOnly.rf⟩
theorem w_end (hb : bR w (I c) (J (o + 1)) (15 + 12 * i)) (hi : i < 8) (hw : w < 9999) (h2 : J (o + 1) 2 = nI (w + 1)) : bS (w + 1) (fX0_endRepairIn I c (nI (w + 1)) c) (fX7_repairs J o (nI i) (o + 1)) (15 + 12 * i) ∧ mOnly J (fX7_repairs J o (nI i)) o i := by
  obtain ⟨⟨g0, g1, g2, g3, g4, g6⟩, ht, hp, hs, hB, hW, ⟨X, X1, X2⟩, h6⟩ := id hb
  unfold fX0_endRepairIn fX7_repairs fX0_becomeCold
  rw [of_3 hi, of_5 hi, lc_2, h2, g3]
  rcases ht with t | ⟨t, t7⟩ | ⟨t, t5, e, e1, e2, e3⟩
  · rw [t, if_neg (by decide), if_neg (by decide)]
    exact ⟨⟨⟨g0, g1, g2, g3, g4, g6⟩, Or.inl t, hp, hs, hB, hW, ⟨X, X1, X2⟩, h6⟩, mOnly.rf⟩
  · rw [t, if_neg (by decide), if_neg (by decide)]
    exact ⟨⟨⟨g0, g1, g2, g3, g4, g6⟩, Or.inr (Or.inl t), hp, hs, hB, hW, ⟨X, X1, X2⟩, h6⟩, mOnly.rf⟩
  · rw [t, if_pos rfl, if_pos rfl, t5, e1]
    by_cases c1 : e = w + 1
    · rw [if_pos (nI_le (a := e) (b := w + 1) (by omega) (by omega)), if_pos (by rw [c1])]
      simp only [cools_eq hi, of_2 hi, lays_2 hi, lays_6 hi, lays_9 hi]
      refine ⟨?_, ((((mOnly.rf.set (by omega)).set (by omega)).set (by omega)).set (by omega)).set (by omega)⟩
      unfold bS
      simp (disch := omega) only [jset_eq, jset_nj]
      refine ⟨⟨g0, g1, by rw [g2], trivial, trivial, trivial⟩, Or.inl trivial, Or.inr ⟨trivial, trivial⟩, hs, hB, hW, ⟨X / 4, by omega, ?_⟩, Or.inl trivial⟩
      rw [X2, show (4 : Int32) = nI 4 from rfl, pk_div (by omega) (by decide) (by decide)]
    · rw [if_neg (nI_ge (a := w + 1) (b := e) (by omega) (by omega)), if_neg (fun q => c1 ((nI_eq (by omega) (by omega)).mp q))]
      exact ⟨⟨⟨g0, g1, g2, g3, g4, g6⟩, Or.inr (Or.inr ⟨t, t5, e, e1, by omega, e3⟩), hp, hs, hB, hW, ⟨X, X1, X2⟩, h6⟩, mOnly.rf⟩
/-- the paper that has run out, alone -/
def cD1 (I : jI) (o : Nat) (x : Int32) : jI := if I o 7 = 0 then I else if x ≤ I o 10 then I else jset I o 7 0
def cD2 (I : jI) (o : Nat) (x : Int32) : jI := if I o 11 = 0 then I else if x ≤ I o 13 then I else jset I o 11 0
theorem drop_eq (x : Int32) : fX0_dropWhatIsPastIn I c x = cD2 (cD1 I c x) c x := by
  unfold fX0_dropWhatIsPastIn cD1 cD2
  by_cases c1 : I c 7 = 0
  · rw [if_pos c1, if_pos c1]
  · rw [if_neg c1, if_neg c1]
    by_cases c2 : x ≤ I c 10
    · rw [if_pos c2, if_pos c2]
    · rw [if_neg c2, if_neg c2]
theorem w_d1 (hb : bS w (I c) (J (o + 1)) (15 + 12 * i)) (hi : i < 8) (h2 : J (o + 1) 2 = nI w) : bS w (cD1 I c (nI w) c) (mDrop1 J o (nI i) (o + 1)) (15 + 12 * i) ∧ mOnly J (mDrop1 J o (nI i)) o i := by
  unfold cD1 mDrop1
  rw [s_has hb hi, lc_2, h2, of_11 hi]
  obtain ⟨⟨g0, g1, g2, g3, g4, g6⟩, ht, hp, hs, hB, hW, hX, h6⟩ := id hb
  rcases hp with ⟨p1, p2, p3, p4, p5⟩ | ⟨p1, p2⟩
  · rw [p1, if_neg one0, if_neg one0, p4]
    by_cases c1 : nI w ≤ J (o + 1) (15 + 12 * i + 11)
    · rw [if_pos c1, if_pos c1]; exact ⟨hb, mOnly.rf⟩
    · rw [if_neg c1, if_neg c1, lays_9 hi]
      refine ⟨?_, mOnly.rf.set (by omega)⟩
      unfold bS
      simp (disch := omega) only [jset_eq, jset_nj]
      exact ⟨⟨g0, g1, g2, g3, g4, g6⟩, ht, Or.inr ⟨trivial, trivial⟩, hs, hB, hW, hX, h6⟩
  · rw [p1, if_pos rfl, if_pos rfl]; exact ⟨hb, mOnly.rf⟩
theorem w_d2 (hb : bS w (I c) (J (o + 1)) (15 + 12 * i)) (hi : i < 8) (h2 : J (o + 1) 2 = nI w) : bS w (cD2 I c (nI w) c) (mDrop2 J o (nI i) (o + 1)) (15 + 12 * i) ∧ mOnly J (mDrop2 J o (nI i)) o i := by
  unfold cD2 mDrop2
  rw [lc_2, h2, of_7 hi, of_8 hi]
  obtain ⟨⟨g0, g1, g2, g3, g4, g6⟩, ht, hp, hs, hB, hW, hX, h6⟩ := id hb
  rcases hs with ⟨p1, p2, p3, q, p4, p5⟩ | ⟨p1, p2⟩
  · rw [p1, if_neg one0, p3, if_neg (show ¬ J (o + 1) (15 + 12 * i + 7) < 0 by rw [p4]; exact nI_pos (by omega))]
    by_cases c1 : nI w ≤ J (o + 1) (15 + 12 * i + 8)
    · rw [if_pos c1, if_pos c1]; exact ⟨hb, mOnly.rf⟩
    · rw [if_neg c1, if_neg c1, lays_7 hi]
      refine ⟨?_, mOnly.rf.set (by omega)⟩
      unfold bS
      simp (disch := omega) only [jset_eq, jset_nj]
      exact ⟨⟨g0, g1, g2, g3, g4, g6⟩, ht, hp, Or.inr ⟨trivial, trivial⟩, hB, hW, hX, h6⟩
  · rw [p1, if_pos rfl, if_pos (show J (o + 1) (15 + 12 * i + 7) < 0 by rw [p2]; decide)]; exact ⟨hb, mOnly.rf⟩
def cOut (I : jI) (n : Int32) (b : Nat) (x : Int32) : Int32 × jI := if fX0_mustGoOutIn I b x = 0 then (n, I) else (n + 1, fX0_becomeCold I b)
theorem w_out (n : Int32) (hb : bS w (I c) (J (o + 1)) (15 + 12 * i)) (hi : i < 8) (h2 : J (o + 1) 2 = nI w) : (cOut I n c (nI w)).1 = (mOut J o n (nI i)).1 ∧ bR w ((cOut I n c (nI w)).2 c) ((mOut J o n (nI i)).2 (o + 1)) (15 + 12 * i) ∧ mOnly J (mOut J o n (nI i)).2 o i := by
  unfold cOut mOut fX0_mustGoOutIn fX0_becomeCold
  rw [s_has hb hi, s_shut hb hi h2, of_3 hi, cools_eq hi]
  obtain ⟨⟨g0, g1, g2, g3, g4, g6⟩, ht, hp, hs, hB, hW, hX, h6⟩ := id hb
  rw [g3]
  have hout : bR w (jset (jset I c 3 0) c 4 0 c) (jset (jset J (o + 1) (15 + 12 * i + 3) 0) (o + 1) (15 + 12 * i + 4) 0 (o + 1)) (15 + 12 * i) ∧ mOnly J (jset (jset J (o + 1) (15 + 12 * i + 3) 0) (o + 1) (15 + 12 * i + 4) 0) o i := by
    refine ⟨?_, (mOnly.rf.set (by omega)).set (by omega)⟩
    unfold bR
    simp (disch := omega) only [jset_eq, jset_nj]
    exact ⟨⟨g0, g1, g2, trivial, trivial, g6⟩, Or.inl trivial, hp, hs, hB, hW, hX, h6⟩
  rcases ht with t | t | ⟨t, t5⟩
  · rw [t, if_neg (show ¬ (0 : Int32) = 1 by decide), if_pos rfl, if_neg (show ¬ (0 : Int32) = 1 by decide)]
    exact ⟨rfl, ⟨⟨g0, g1, g2, g3, g4, g6⟩, Or.inl t, hp, hs, hB, hW, hX, h6⟩, mOnly.rf⟩
  · rw [t, if_pos rfl, if_pos rfl]
    by_cases c1 : I c 7 = 0
    · rw [if_pos c1, if_pos c1, if_neg one0]
      exact ⟨rfl, hout⟩
    · rw [if_neg c1, if_neg c1]
      by_cases c2 : fX0_isShutIn I c (nI w) = 0
      · rw [if_pos c2, if_pos c2, if_pos rfl]
        have c7 : I c 7 = 1 := by
          rcases hp with ⟨u, -⟩ | ⟨u, -⟩
          · exact u
          · exact absurd u c1
        exact ⟨rfl, ⟨⟨g0, g1, g2, g3, g4, g6⟩, Or.inr (Or.inl ⟨t, c7⟩), hp, hs, hB, hW, hX, h6⟩, mOnly.rf⟩
      · rw [if_neg c2, if_neg c2, if_neg one0]
        exact ⟨rfl, hout⟩
  · rw [t, if_neg (show ¬ (2 : Int32) = 1 by decide), if_pos rfl, if_neg (show ¬ (2 : Int32) = 1 by decide)]
    exact ⟨rfl, ⟨⟨g0, g1, g2, g3, g4, g6⟩, Or.inr (Or.inr ⟨t, t5⟩), hp, hs, hB, hW, hX, h6⟩, mOnly.rf⟩
end PW
