theorem in_no {I : jI} {y z : Int32} {m : Nat} (hz : z = nI m) (hm : m + 1 < 2 ^ 31) (h : y < 0 ∨ nI (m + 1) ≤ y) : fX7_in I y 0 z = 0 := by
  subst hz
  unfold fX7_in
  rcases h with h | h
  · rw [if_pos h]
  · split
    · rfl
    · rw [if_pos]
      exact Int32.lt_iff_toInt_lt.mpr (by have := Int32.le_iff_toInt_le.mp h; rw [nI_toInt hm] at this; rw [nI_toInt (by omega)]; omega)
theorem in_y {I : jI} {j m : Nat} {z : Int32} (hz : z = nI m) (h : j ≤ m) (hm : m < 2 ^ 31) : fX7_in I (nI j) 0 z = 1 := in_yes (a := j) (b := 0) (c := m) rfl rfl hz (by omega) h hm
theorem ne_out {y : Int32} {n : Nat} (hn : n < 2 ^ 31) (h : y < 0 ∨ nI n ≤ y) {k : Nat} (hk : k < n) : ¬ y = nI k := by
  rintro rfl
  rcases h with h | h
  · exact nI_pos (by omega) h
  · exact nI_ge hk hn h
theorem sh_t (a b : Nat) (h : ((List.range b).all fun q => q < a || (List.range (q + 1)).all fun p => shOK (nI p) (nI q)) = true) : ∀ B, B < b → a ≤ B → ∀ S, S ≤ B → shOK (nI S) (nI B) = true := by
  intro B h1 h2 S h3
  have q1 := List.all_eq_true.mp h B (List.mem_range.mpr h1)
  have q2 : ¬ B < a := by omega
  simp only [q2, decide_false, Bool.false_or] at q1
  exact List.all_eq_true.mp q1 S (List.mem_range.mpr (by omega))
theorem sh_2 : ((List.range 14).all fun q => q < 2 || (List.range (q + 1)).all fun p => shOK (nI p) (nI q)) = true := by decide +kernel
theorem sh_14 : ((List.range 20).all fun q => q < 14 || (List.range (q + 1)).all fun p => shOK (nI p) (nI q)) = true := by decide +kernel
theorem sh_20 : ((List.range 25).all fun q => q < 20 || (List.range (q + 1)).all fun p => shOK (nI p) (nI q)) = true := by decide +kernel
theorem sh_25 : ((List.range 29).all fun q => q < 25 || (List.range (q + 1)).all fun p => shOK (nI p) (nI q)) = true := by decide +kernel
theorem sh_29 : ((List.range 33).all fun q => q < 29 || (List.range (q + 1)).all fun p => shOK (nI p) (nI q)) = true := by decide +kernel
theorem sh_33 : ((List.range 36).all fun q => q < 33 || (List.range (q + 1)).all fun p => shOK (nI p) (nI q)) = true := by decide +kernel
theorem sh_36 : ((List.range 39).all fun q => q < 36 || (List.range (q + 1)).all fun p => shOK (nI p) (nI q)) = true := by decide +kernel
theorem sh_39 : ((List.range 41).all fun q => q < 39 || (List.range (q + 1)).all fun p => shOK (nI p) (nI q)) = true := by decide +kernel
theorem sh_ok (B : Nat) (h1 : B < 41) (h2 : 2 ≤ B) : ∀ S, S ≤ B → shOK (nI S) (nI B) = true := by
  by_cases c2 : B < 14
  · exact sh_t 2 14 sh_2 B c2 (by omega)
  by_cases c14 : B < 20
  · exact sh_t 14 20 sh_14 B c14 (by omega)
  by_cases c20 : B < 25
  · exact sh_t 20 25 sh_20 B c20 (by omega)
  by_cases c25 : B < 29
  · exact sh_t 25 29 sh_25 B c25 (by omega)
  by_cases c29 : B < 33
  · exact sh_t 29 33 sh_29 B c29 (by omega)
  by_cases c33 : B < 36
  · exact sh_t 33 36 sh_33 B c33 (by omega)
  by_cases c36 : B < 39
  · exact sh_t 36 39 sh_36 B c36 (by omega)
  exact sh_t 39 41 sh_39 B h1 (by omega)
section PQ
variable {nb ni w : Nat} {I J : jI} {h o : Nat}
theorem Rp.b (hR : Rp nb ni w I h (J (o + 1))) {i : Nat} (hi : i < nb) : bR w (I (h + 5 + i)) (J (o + 1)) (15 + 12 * i) := hR.2.2.2.2.1 i hi
theorem Rp.i (hR : Rp nb ni w I h (J (o + 1))) {i : Nat} (hi : i < ni) : iR (I (h + 13 + i)) (J (o + 1)) (111 + 5 * i) := hR.2.2.2.2.2.1 i hi
theorem Rp.hw (hR : Rp nb ni w I h (J (o + 1))) : I h 6 = nI w := hR.2.1.2.2.2.2.1
theorem Rp.ww (hR : Rp nb ni w I h (J (o + 1))) : J (o + 1) 2 = nI w := hR.2.1.2.2.2.2.2.1
theorem Rp.set (hR : Rp nb ni w I h (J (o + 1))) : ∀ j, j < 4 → I (h + 3) j = J (o + 1) (7 + j) := hR.2.2.1
theorem Rp.acc (hR : Rp nb ni w I h (J (o + 1))) : ∀ j, j < 4 → I (h + 4) j = J (o + 1) (11 + j) := hR.2.2.2.1
theorem one0 : ¬ (1 : Int32) = 0 := by decide
theorem fact_out {c : Nat} {y W : Int32} (hy : ∀ k, k < 10 → ¬ y = nI k) : fX0_fact I c y W = (-2000000001) := by
  unfold fX0_fact
  rw [if_neg (show ¬ y = 0 from hy 0 (by decide)), if_neg (show ¬ y = 1 from hy 1 (by decide)), if_neg (show ¬ y = 2 from hy 2 (by decide)), if_neg (show ¬ y = 3 from hy 3 (by decide)), if_neg (show ¬ y = 4 from hy 4 (by decide)), if_neg (show ¬ y = 5 from hy 5 (by decide)), if_neg (show ¬ y = 6 from hy 6 (by decide)), if_neg (show ¬ y = 7 from hy 7 (by decide)), if_neg (show ¬ y = 8 from hy 8 (by decide)), if_neg (show ¬ y = 9 from hy 9 (by decide))]
theorem q_boilerOf (hR : Rp nb ni w I h (J (o + 1))) (x y : Int32) : fX2_factOfBoiler I h x y = fX7_boilerOf J o x y := by
  unfold fX2_factOfBoiler fX7_boilerOf
  rcases hR.bx x with ⟨i, hi, hi8, rfl, e1, e2⟩ | ⟨e1, e2⟩
  · rw [e1, e2, if_neg one0]
    show fX0_fact I (h + 5 + i) y (I h 6) = _
    have hb := hR.b hi
    rw [hR.hw]
    generalize h + 5 + i = c at hb
    rcases pk_ix y (n := 10) (by decide) with hy | hy | ⟨j, hj, rfl⟩
    · rw [in_no (z := 9) (m := 9) rfl (by decide) (Or.inl hy), if_pos rfl, fact_out (fun k hk => ne_out (by decide) (Or.inl hy) hk)]
    · rw [in_no (z := 9) (m := 9) rfl (by decide) (Or.inr hy), if_pos rfl, fact_out (fun k hk => ne_out (by decide) (Or.inr hy) hk)]
    · rw [in_y (j := j) (z := 9) (m := 9) rfl (by omega) (by decide), if_neg one0]
      obtain ⟨S, S1, S2, S3⟩ := p_str hb hi8
      obtain ⟨⟨g0, g1, g2, g3, g4, g6⟩, ht, hp, hs, -, -, -, h6⟩ := hb
      rcases (show j = 0 ∨ j = 1 ∨ j = 2 ∨ j = 3 ∨ j = 4 ∨ j = 5 ∨ j = 6 ∨ j = 7 ∨ j = 8 ∨ j = 9 by omega) with rfl | rfl | rfl | rfl | rfl | rfl | rfl | rfl | rfl | rfl
      · show (I c 0) = (fX7_of J o (nI i) 0)
        rw [of_0 hi8, g0]
      · show (I c 1) = (fX7_of J o (nI i) 1)
        rw [of_1 hi8, g1]
      · show (I c 2) = (fX7_of J o (nI i) 2)
        rw [of_2 hi8, g2]
      · show (I c 3) = (fX7_of J o (nI i) 3)
        rw [of_3 hi8, g3]
      · show (if I c 3 = 0 then I c 4 else (-2000000004)) = (if fX7_of J o (nI i) 3 = 0 then fX7_of J o (nI i) 4 else (-2000000004))
        rw [of_3 hi8, of_4 hi8, g3, g4]
      · show (if I c 3 = 2 then I c 5 - nI w else (-2000000004)) = (if fX7_of J o (nI i) 3 = 2 then fX7_of J o (nI i) 5 - J (o + 1) 2 else (-2000000004))
        rw [of_3 hi8, of_5 hi8, g3, hR.ww]
        rcases ht with t | ⟨t, -⟩ | ⟨t, t5, -⟩
        · rw [t, if_neg (by decide), if_neg (by decide)]
        · rw [t, if_neg (by decide), if_neg (by decide)]
        · rw [t5]
      · show (if I c 6 = 0 then 0 else 1) = (fX7_of J o (nI i) 6)
        rw [of_6 hi8, g6]
        rcases h6 with t | t <;> rw [t] <;> rfl
      · show (if I c 11 = 0 then (-2000000004) else I c 12) = (if 0 ≤ fX7_of J o (nI i) 7 then fX7_of J o (nI i) 7 else (-2000000004))
        rw [of_7 hi8]
        rcases hs with ⟨t1, t2, t3, q, t4, t5⟩ | ⟨t1, t2⟩
        · rw [t1, if_neg one0, if_pos (show (0 : Int32) ≤ J (o + 1) (15 + 12 * i + 7) by rw [t4]; exact nI_pos' (by omega)), t2]
        · rw [t1, if_pos rfl, if_neg (show ¬ (0 : Int32) ≤ J (o + 1) (15 + 12 * i + 7) by rw [t2]; decide)]
      · show (if I c 11 = 0 then (-2000000004) else I c 13) = (if 0 ≤ fX7_of J o (nI i) 7 then fX7_of J o (nI i) 8 else (-2000000004))
        rw [of_7 hi8, of_8 hi8]
        rcases hs with ⟨t1, t2, t3, q, t4, t5⟩ | ⟨t1, t2⟩
        · rw [t1, if_neg one0, if_pos (show (0 : Int32) ≤ J (o + 1) (15 + 12 * i + 7) by rw [t4]; exact nI_pos' (by omega)), t3]
        · rw [t1, if_pos rfl, if_neg (show ¬ (0 : Int32) ≤ J (o + 1) (15 + 12 * i + 7) by rw [t2]; decide)]
      · show (fX0_strength I c) = (fX7_strength J o (nI i))
        rw [S2, S3]
  · rw [e1, e2, if_pos rfl]
theorem q_paperOf (hR : Rp nb ni w I h (J (o + 1))) (x y : Int32) : fX2_factOfPaper I h x y = fX7_paperOf J o x y := by
  unfold fX2_factOfPaper fX7_paperOf
  rcases hR.bx x with ⟨i, hi, hi8, rfl, e1, e2⟩ | ⟨e1, e2⟩
  · rw [e1, e2, if_neg one0]
    show fX0_factOfPaper I (h + 5 + i) y = _
    have hb := hR.b hi
    rw [p_has hb hi8]
    generalize h + 5 + i = c at hb
    unfold fX0_factOfPaper
    rcases pk_ix y (n := 3) (by decide) with hy | hy | ⟨j, hj, rfl⟩
    · rw [in_no (z := 2) (m := 2) rfl (by decide) (Or.inl hy), if_pos rfl, if_pos hy]
    · have h0 : ¬ y < 0 := Int32.not_lt.mpr (Int32.le_trans (by decide) hy)
      have h2 : ¬ y ≤ 2 := Int32.not_le.mpr (Int32.lt_of_lt_of_le (by decide) hy)
      rw [in_no (z := 2) (m := 2) rfl (by decide) (Or.inr hy), if_pos rfl, if_neg h0, if_neg h2]
    · rw [in_y (j := j) (z := 2) (m := 2) rfl (by omega) (by decide), if_neg one0, if_neg (nI_pos (n := j) (by omega)), if_pos (show nI j ≤ 2 from nI_le (a := j) (b := 2) (by omega) (by decide))]
      obtain ⟨-, -, hp, -⟩ := hb
      rcases hp with ⟨t1, t2, t3, t4, -⟩ | ⟨t1, t2⟩
      · rw [t1, if_neg one0, if_neg one0]
        rcases (show j = 0 ∨ j = 1 ∨ j = 2 by omega) with rfl | rfl | rfl
        · show I c 8 = fX7_of J o (nI i) 9
          rw [of_9 hi8, t2]
        · show I c 9 = fX7_of J o (nI i) 10
          rw [of_10 hi8, t3]
        · show I c 10 = fX7_of J o (nI i) 11
          rw [of_11 hi8, t4]
      · rw [t1, if_pos rfl, if_pos rfl]
  · rw [e1, e2, if_pos rfl]
theorem q_inspectorOf (hR : Rp nb ni w I h (J (o + 1))) (x y : Int32) : fX2_factOfInspector I h x y = fX7_inspectorOf J o x y := by
  unfold fX2_factOfInspector fX7_inspectorOf
  rcases hR.ix x with ⟨i, hi, hi8, rfl, e1, e2⟩ | ⟨e1, e2⟩
  · rw [e1, e2, if_neg one0]
    show fX3_fact I (h + 13 + i) y = _
    have hb := hR.i hi
    generalize h + 13 + i = c at hb
    rcases pk_ix y (n := 5) (by decide) with hy | hy | ⟨j, hj, rfl⟩
    · have hn : ∀ k, k < 5 → ¬ y = nI k := fun k hk => ne_out (by decide) (Or.inl hy) hk
      rw [in_no (z := 4) (m := 4) rfl (by decide) (Or.inl hy), if_pos rfl]
      unfold fX3_fact
      rw [if_neg (show ¬ y = 0 from hn 0 (by decide)), if_neg (show ¬ y = 1 from hn 1 (by decide)), if_neg (show ¬ y = 2 from hn 2 (by decide)), if_neg (show ¬ y = 3 from hn 3 (by decide)), if_neg (show ¬ y = 4 from hn 4 (by decide))]
    · have hn : ∀ k, k < 5 → ¬ y = nI k := fun k hk => ne_out (by decide) (Or.inr hy) hk
      rw [in_no (z := 4) (m := 4) rfl (by decide) (Or.inr hy), if_pos rfl]
      unfold fX3_fact
      rw [if_neg (show ¬ y = 0 from hn 0 (by decide)), if_neg (show ¬ y = 1 from hn 1 (by decide)), if_neg (show ¬ y = 2 from hn 2 (by decide)), if_neg (show ¬ y = 3 from hn 3 (by decide)), if_neg (show ¬ y = 4 from hn 4 (by decide))]
    · rw [in_y (j := j) (z := 4) (m := 4) rfl (by omega) (by decide), if_neg one0]
      obtain ⟨⟨k0, k1, k2, k3, k4⟩, -⟩ := hb
      rcases (show j = 0 ∨ j = 1 ∨ j = 2 ∨ j = 3 ∨ j = 4 by omega) with rfl | rfl | rfl | rfl | rfl
      · show I c 0 = fX7_by J o (nI i) 0
        rw [by_0 hi8, k0]
      · show I c 1 = fX7_by J o (nI i) 1
        rw [by_1 hi8, k1]
      · show I c 1 - I c 2 = fX7_by J o (nI i) 1 - fX7_by J o (nI i) 2
        rw [by_1 hi8, by_2 hi8, k1, k2]
      · show I c 3 = fX7_by J o (nI i) 3
        rw [by_3 hi8, k3]
      · show I c 4 = fX7_by J o (nI i) 4
        rw [by_4 hi8, k4]
  · rw [e1, e2, if_pos rfl]
theorem q_why (hR : Rp nb ni w I h (J (o + 1))) (x y : Int32) : (if y = (-1) then fX2_whyNotFired I h x else fX2_whyNotInspected I h x y) = fX7_why J o x y := by
  unfold fX2_whyNotFired fX2_whyNotInspected fX7_why
  rcases hR.bx x with ⟨i, hi, hi8, rfl, e1, e2⟩ | ⟨e1, e2⟩
  · rw [e1, e2, if_neg one0]
    have hb := hR.b hi
    by_cases hy : y = (-1)
    · rw [if_pos hy, if_pos hy, p_whyF hb hi8 hR.ww, hR.hw]
    · rw [if_neg hy, if_neg hy]
      rcases hR.ix y with ⟨j, hj, hj6, rfl, e3, e4⟩ | ⟨e3, e4⟩
      · rw [e3, e4, if_neg one0, p_whyI hb hi8 (hR.i hj) hj6]
      · rw [e3, e4, if_pos rfl]
  · rw [e1, e2, if_pos rfl]
    by_cases hy : y = (-1)
    · rw [if_pos hy]
    · rw [if_neg hy]
      rcases hR.ix y with ⟨j, hj, hj6, rfl, e3, e4⟩ | ⟨e3, e4⟩
      · rw [e3]
      · rw [e3]
theorem q_account (hR : Rp nb ni w I h (J (o + 1))) (x : Int32) : fX2_balanceOf I h x = fX7_account J o x := by
  unfold fX2_balanceOf fX7_account
  rcases pk_ix x (n := 4) (by decide) with hy | hy | ⟨j, hj, rfl⟩
  · rw [in_no (z := 3) (m := 3) rfl (by decide) (Or.inl hy), if_pos rfl, if_pos hy]
  · have h0 : ¬ x < 0 := Int32.not_lt.mpr (Int32.le_trans (by decide) hy)
    rw [in_no (z := 3) (m := 3) rfl (by decide) (Or.inr hy), if_pos rfl, if_neg h0, if_pos (show (4 : Int32) ≤ x from hy)]
  · rw [in_y (j := j) (z := 3) (m := 3) rfl (by omega) (by decide), if_neg one0, if_neg (nI_pos (n := j) (by omega)), if_neg (show ¬ (4 : Int32) ≤ nI j from nI_ge (a := j) (b := 4) hj (by decide)), nI_clamp (by omega), show (11 : Int32) + nI j = nI (11 + j) from nI_add 11 j, nI_clamp (by omega)]
    exact hR.acc j hj
theorem q_would (hR : Rp nb ni w I h (J (o + 1))) (x y z : Int32) : fX2_paperThatWouldBe I h x y z = fX7_would J o x y z := by
  unfold fX2_paperThatWouldBe fX7_would
  rcases hR.bx x with ⟨i, hi, hi8, rfl, e1, e2⟩ | ⟨e1, e2⟩
  · rw [e1, e2, if_neg one0]
    show (if fX6_isInsurer I y = 0 then _ else _) = _
    have hb := hR.b hi
    generalize h + 5 + i = c at hb
    rcases pk_ix y (n := 2) (by decide) with hy | hy | ⟨j, hj, rfl⟩
    · have hn : ∀ k, k < 2 → ¬ y = nI k := fun k hk => ne_out (by decide) (Or.inl hy) hk
      rw [in_no (z := 1) (m := 1) rfl (by decide) (Or.inl hy), if_pos rfl]
      unfold fX6_isInsurer
      rw [if_neg (show ¬ y = 0 from hn 0 (by decide)), if_neg (show ¬ y = 1 from hn 1 (by decide)), if_pos rfl]
    · have hn : ∀ k, k < 2 → ¬ y = nI k := fun k hk => ne_out (by decide) (Or.inr hy) hk
      rw [in_no (z := 1) (m := 1) rfl (by decide) (Or.inr hy), if_pos rfl]
      unfold fX6_isInsurer
      rw [if_neg (show ¬ y = 0 from hn 0 (by decide)), if_neg (show ¬ y = 1 from hn 1 (by decide)), if_pos rfl]
    · have hj2 : nI j = 0 ∨ nI j = 1 := by rcases (show j = 0 ∨ j = 1 by omega) with rfl | rfl <;> first | exact Or.inl rfl | exact Or.inr rfl
      have hI : fX6_isInsurer I (nI j) = 1 := by rcases hj2 with e | e <;> rw [e] <;> rfl
      rw [in_y (j := j) (z := 1) (m := 1) rfl (by omega) (by decide), if_neg one0, hI, if_neg one0]
      obtain ⟨P, P1, P2, P3⟩ := p_prs hb hi8 hR.set hj2
      obtain ⟨L, L1, L2, -, -, L5, L6⟩ := p_last (h := h) hb hi8 hR.ww hR.hw hR.1.2.2 (nI j)
      rw [P2, P3, L5, L6]
      rcases pk_ix z (n := 2) (by decide) with hz | hz | ⟨q, hq, rfl⟩
      · rw [in_no (z := 1) (m := 1) rfl (by decide) (Or.inl hz), if_pos rfl, if_pos hz]
      · have h0 : ¬ z < 0 := Int32.not_lt.mpr (Int32.le_trans (by decide) hz)
        have h2 : ¬ z ≤ 1 := Int32.not_le.mpr (Int32.lt_of_lt_of_le (by decide) hz)
        rw [in_no (z := 1) (m := 1) rfl (by decide) (Or.inr hz), if_pos rfl, if_neg h0, if_neg h2]
      · rw [in_y (j := q) (z := 1) (m := 1) rfl (by omega) (by decide), if_neg one0, if_neg (nI_pos (n := q) (by omega)), if_pos (show nI q ≤ 1 from nI_le (a := q) (b := 1) (by omega) (by decide))]
        have h0 : nI P ≤ 0 ↔ nI P = 0 := by
          rw [show (0 : Int32) = nI 0 from rfl, nI_leI (by omega) (by omega), nI_eq (by omega) (by omega)]; omega
        by_cases c1 : nI P = 0
        · rw [if_pos c1, if_pos (h0.mpr c1)]
        · rw [if_neg c1, if_neg (fun q => c1 (h0.mp q))]
  · rw [e1, e2, if_pos rfl]
theorem q_better (hR : Rp nb ni w I h (J (o + 1))) (x : Int32) : fX2_betterInsurer I h x = fX7_better J o x := by
  unfold fX2_betterInsurer fX7_better
  rcases hR.bx x with ⟨i, hi, hi8, rfl, e1, e2⟩ | ⟨e1, e2⟩
  · rw [e1, e2, if_neg one0]
    show (if fX2_pressureOffered I h (h + 5 + i) 0 < I (h + 5 + i) 1 then _ else _) = _
    have hb := hR.b hi
    generalize h + 5 + i = c at hb
    obtain ⟨P, P1, P2, P3⟩ := p_prs hb hi8 hR.set (Or.inl rfl)
    obtain ⟨Q, Q1, Q2, Q3⟩ := p_prs hb hi8 hR.set (Or.inr rfl)
    obtain ⟨L, L1, L2, -, -, L5, L6⟩ := p_last (h := h) hb hi8 hR.ww hR.hw hR.1.2.2 0
    obtain ⟨M, M1, M2, -, -, M5, M6⟩ := p_last (h := h) hb hi8 hR.ww hR.hw hR.1.2.2 1
    have hw := hR.1.2.2
    have g1 : I c 1 = J (o + 1) (15 + 12 * i + 1) := hb.1.2.1
    unfold fX2_isOneBetter fX7_wouldDo
    rw [P2, P3, Q2, Q3, L5, L6, M5, M6, of_1 hi8, g1]
    by_cases c1 : nI P < J (o + 1) (15 + 12 * i + 1)
    · rw [if_pos c1, if_pos c1, if_pos rfl]
      by_cases c2 : nI Q < J (o + 1) (15 + 12 * i + 1)
      · rw [if_pos c2, if_pos c2, if_pos rfl]
      · rw [if_neg c2, if_neg c2, if_neg one0]
    · rw [if_neg c1, if_neg c1, if_neg one0]
      by_cases c2 : nI Q < J (o + 1) (15 + 12 * i + 1)
      · rw [if_pos c2, if_pos c2, if_pos rfl]
      · rw [if_neg c2, if_neg c2, if_neg one0]
        by_cases c3 : L = M
        · subst c3
          rw [if_pos rfl, pk_sub (Nat.le_refl L), Nat.sub_self, if_neg (show ¬ (0 : Int32) < nI 0 by decide), if_pos (show nI 0 = 0 from rfl)]
          by_cases c4 : Q ≤ P
          · have c6 : nI Q - nI P ≤ 0 := by
              rw [Int32.le_iff_toInt_le, pk_sub_toInt (by omega) (by omega)]
              show (Q : Int) - P ≤ 0
              omega
            rw [if_pos (nI_le c4 (by omega)), if_pos rfl, if_pos c6]
          · have c6 : ¬ nI Q - nI P ≤ 0 := by
              rw [Int32.le_iff_toInt_le, pk_sub_toInt (by omega) (by omega)]
              show ¬ (Q : Int) - P ≤ 0
              omega
            rw [if_neg (nI_ge (by omega) (by omega)), if_neg one0, if_neg c6]
        · rw [if_neg (show ¬ nI L = nI M from fun q => c3 ((nI_eq (by omega) (by omega)).mp q))]
          by_cases c4 : M ≤ L
          · have c6 : ¬ 0 < nI M - nI L := by
              rw [Int32.lt_iff_toInt_lt, pk_sub_toInt (by omega) (by omega)]
              show ¬ (0 : Int) < (M : Int) - L
              omega
            have c7 : ¬ nI M - nI L = 0 := by
              intro q
              have := congrArg Int32.toInt q
              rw [pk_sub_toInt (by omega) (by omega)] at this
              have : (M : Int) - L = 0 := this
              omega
            rw [if_pos (nI_le c4 (by omega)), if_pos rfl, if_neg c6, if_neg c7]
          · have c6 : 0 < nI M - nI L := by
              rw [Int32.lt_iff_toInt_lt, pk_sub_toInt (by omega) (by omega)]
              show (0 : Int) < (M : Int) - L
              omega
            rw [if_neg (nI_ge (by omega) (by omega)), if_neg one0, if_pos c6]
  · rw [e1, e2, if_pos rfl]
theorem q_goesOn (hR : Rp nb ni w I h (J (o + 1))) (x : Int32) : fX2_weeksUntilPutOut I h x = fX7_goesOn J o x := by
  unfold fX2_weeksUntilPutOut fX7_goesOn
  rcases hR.bx x with ⟨i, hi, hi8, rfl, e1, e2⟩ | ⟨e1, e2⟩
  · rw [e1, e2, if_neg one0]
    show fX0_weeksUntilPutOut I (h + 5 + i) (I h 6) = _
    have hb := hR.b hi
    have hw := hR.1.2.2
    generalize h + 5 + i = c at hb
    unfold fX0_weeksUntilPutOut
    rw [hR.hw, lc_2, hR.ww, of_3 hi8, of_7 hi8, of_11 hi8]
    obtain ⟨⟨g0, g1, g2, g3, g4, g6⟩, ht, hp, hs, -⟩ := hb
    rw [g3]
    rcases ht with t | ⟨t, t7⟩ | ⟨t, -⟩
    · rw [t, if_neg (by decide), if_neg (by decide)]
    · rw [t, if_pos rfl, if_pos rfl]
      rcases hp with ⟨-, -, -, u4, -, l, u5, u6⟩ | ⟨u, -⟩
      · rw [u4, u5]
        rcases hs with ⟨v1, v2, v3, q, v4, v5⟩ | ⟨v1, v2⟩
        · rw [v1, v2, v4, if_neg one0, if_neg (nI_pos (by omega)), nI_1]
          have a1 := pk_sub_toInt (a := q) (b := w) (by omega) (by omega)
          have a2 := pk_sub_toInt (a := l + 1) (b := w) (by omega) (by omega)
          by_cases c1 : l + 1 ≤ q
          · have : ¬ nI q - nI w < nI (l + 1) - nI w := by rw [Int32.lt_iff_toInt_lt, a1, a2]; omega
            rw [if_neg this, if_pos (nI_le c1 (by omega))]
          · have : nI q - nI w < nI (l + 1) - nI w := by rw [Int32.lt_iff_toInt_lt, a1, a2]; omega
            rw [if_pos this, if_neg (nI_ge (by omega) (by omega))]
        · rw [v1, v2, if_pos rfl, if_pos (by decide)]
      · rw [t7] at u; exact absurd u (by decide)
    · rw [t, if_neg (by decide), if_neg (by decide)]
  · rw [e1, e2, if_pos rfl]
theorem cnt0 (hR : Rp nb ni w I h (J (o + 1))) : mCnt J o 0 = nb ∧ (I h 4).toNatClampNeg = nb := by
  have := hR.1
  exact ⟨by unfold mCnt; rw [hR.2.1.2.1, nI_clamp (by omega)], by rw [hR.2.1.1, nI_clamp (by omega)]⟩
theorem cnt1 (hR : Rp nb ni w I h (J (o + 1))) : mCnt J o 1 = ni ∧ (I h 5).toNatClampNeg = ni := by
  have := hR.1
  exact ⟨by unfold mCnt; rw [hR.2.1.2.2.2.1, nI_clamp (by omega)], by rw [hR.2.1.2.2.1, nI_clamp (by omega)]⟩
/-- the first boiler to run out, loop by loop -/
theorem q_firstN (hR : Rp nb ni w I h (J (o + 1))) : ∀ k, k ≤ nb → (cFirst I h k = ((-2000000004), (-2000000004)) ∧ mFirst J o k = (-1)) ∨ ∃ b, b < k ∧ cFirst I h k = (nI b, J (o + 1) (15 + 12 * b + 11)) ∧ mFirst J o k = nI b
  | 0, _ => Or.inl ⟨rfl, rfl⟩
  | k + 1, hk => by
    have h8 := hR.1.1
    have hb := hR.b (show k < nb by omega)
    have k8 : k < 8 := by omega
    obtain ⟨⟨g0, g1, g2, g3, g4, g6⟩, ht, hp, -⟩ := hb
    unfold cFirst mFirst
    rw [of_3 k8, of_11 k8, g3]
    by_cases c1 : J (o + 1) (15 + 12 * k + 3) = 1
    · rw [if_pos c1, if_pos c1]
      have e10 : I (h + 5 + k) 10 = J (o + 1) (15 + 12 * k + 11) := by
        rcases hp with ⟨-, -, -, u4, -⟩ | ⟨u, -⟩
        · exact u4
        · rcases ht with t | ⟨t, t7⟩ | ⟨t, -⟩
          · rw [t] at c1; exact absurd c1 (by decide)
          · rw [t7] at u; exact absurd u (by decide)
          · rw [t] at c1; exact absurd c1 (by decide)
      rw [e10]
      rcases q_firstN hR k (by omega) with ⟨f1, f2⟩ | ⟨b, b1, f1, f2⟩
      · rw [f1, f2, if_pos rfl, if_pos (by decide)]
        exact Or.inr ⟨k, by omega, rfl, rfl⟩
      · rw [f1, f2, if_neg (show ¬ nI b = (-2000000004) from fun q => nI_pos (n := b) (by omega) (by rw [q]; decide)), if_neg (nI_pos (by omega)), of_11 (by omega)]
        by_cases c2 : J (o + 1) (15 + 12 * b + 11) ≤ J (o + 1) (15 + 12 * k + 11)
        · rw [if_pos c2, if_pos c2]; exact Or.inr ⟨b, by omega, rfl, rfl⟩
        · rw [if_neg c2, if_neg c2]; exact Or.inr ⟨k, by omega, rfl, rfl⟩
    · rw [if_neg c1, if_neg c1]
      rcases q_firstN hR k (by omega) with q | ⟨b, b1, f1, f2⟩
      · exact Or.inl q
      · exact Or.inr ⟨b, by omega, f1, f2⟩
theorem q_first (hR : Rp nb ni w I h (J (o + 1))) (x : Int32) : fX2_firstToRunOut I h x = fX7_first J o x := by
  unfold fX2_firstToRunOut fX7_first
  rw [(cnt0 hR).1, (cnt0 hR).2]
  have h8 := hR.1.1
  rcases pk_ix x (n := 2) (by decide) with hz | hz | ⟨q, hq, rfl⟩
  · rw [in_no (z := 1) (m := 1) rfl (by decide) (Or.inl hz), if_pos rfl, if_pos hz]
  · have h0 : ¬ x < 0 := Int32.not_lt.mpr (Int32.le_trans (by decide) hz)
    have h2 : ¬ x ≤ 1 := Int32.not_le.mpr (Int32.lt_of_lt_of_le (by decide) hz)
    rw [in_no (z := 1) (m := 1) rfl (by decide) (Or.inr hz), if_pos rfl, if_neg h0, if_neg h2]
  · rw [in_y (j := q) (z := 1) (m := 1) rfl (by omega) (by decide), if_neg one0, if_neg (nI_pos (n := q) (by omega)), if_pos (show nI q ≤ 1 from nI_le (a := q) (b := 1) (by omega) (by decide))]
    rcases q_firstN hR nb (Nat.le_refl _) with ⟨f1, f2⟩ | ⟨b, b1, f1, f2⟩
    · rw [f1, f2, if_neg (show ¬ (0 : Int32) ≤ (-1) by decide)]
      split <;> rfl
    · rw [f1, f2, if_pos (nI_pos' (by omega)), of_11 (by omega)]
theorem q_isIn (hR : Rp nb ni w I h (J (o + 1))) {i : Nat} (hi : i < nb) (x : Int32) : fX2_isInSet I h (h + 5 + i) x = mIs J o x (nI i) := by
  have h8 := hR.1.1
  have hb := hR.b hi
  have i8 : i < 8 := by omega
  unfold fX2_isInSet mIs
  rw [p_has hb i8, p_whyF hb i8 hR.ww, of_3 i8, of_6 i8, hR.hw]
  obtain ⟨⟨g0, g1, g2, g3, g4, g6⟩, -, -, -, -, -, -, h6⟩ := hb
  rw [g3, g6]
  have : (if J (o + 1) (15 + 12 * i + 6) = 1 then (1 : Int32) else 0) = J (o + 1) (15 + 12 * i + 6) := by rcases h6 with t | t <;> rw [t] <;> rfl
  rw [this]
theorem q_setN (hR : Rp nb ni w I h (J (o + 1))) (x : Int32) : ∀ k, k ≤ nb → cSet I h x k = mSet J o x k
  | 0, _ => rfl
  | k + 1, hk => by
    unfold cSet mSet
    rw [q_setN hR x k (by omega), q_isIn hR (show k < nb by omega)]
    by_cases c : mIs J o x (nI k) = 0
    · rw [if_pos c, if_pos c]; simp
    · rw [if_neg c, if_neg c]
theorem q_sumN (hR : Rp nb ni w I h (J (o + 1))) : ∀ k, k ≤ ni → cSum I h 3 k = sm (fun j => J (o + 1) (111 + 5 * j + 3)) k ∧ cSum I h 4 k = sm (fun j => J (o + 1) (111 + 5 * j + 4)) k
  | 0, _ => ⟨rfl, rfl⟩
  | k + 1, hk => by
    obtain ⟨r1, r2⟩ := q_sumN hR k (by omega)
    obtain ⟨⟨k0, k1, k2, k3, k4⟩, -⟩ := hR.i (show k < ni by omega)
    refine ⟨?_, ?_⟩
    · show cSum I h 3 k + I (h + 13 + k) 3 = sm _ k + J (o + 1) (111 + 5 * k + 3)
      rw [r1, k3]
    · show cSum I h 4 k + I (h + 13 + k) 4 = sm _ k + J (o + 1) (111 + 5 * k + 4)
      rw [r2, k4]
theorem q_share (hR : Rp nb ni w I h (J (o + 1))) (x : Int32) : fX2_shareOfStrength I h x = fX7_share J o x ∧ (∀ b, fX2_boilerAt I h x = some b → 1 ≤ I b 0 → shOK (fX0_strength I b) (I b 0) = true) ∧ (¬ fX7_isBoiler J o x = 0 → shOK (fX7_strength J o x) (fX7_of J o x 0) = true) := by
  unfold fX2_shareOfStrength fX7_share
  rcases hR.bx x with ⟨i, hi, hi8, rfl, e1, e2⟩ | ⟨e1, e2⟩
  · rw [e1, e2, if_neg one0]
    have hb := hR.b hi
    generalize h + 5 + i = c at hb
    obtain ⟨⟨g0, g1, g2, g3, g4, g6⟩, -, -, -, ⟨B, B1, B2, B3⟩, -, ⟨X, X1, X2⟩, -⟩ := hb
    have e : nI B * (200 - nI X) / 200 = nI (B * (200 - X) / 200) := by
      rw [show (200 : Int32) = nI 200 from rfl, pk_sub X1, pk_mul, pk_div (by have := Nat.mul_le_mul B2 (Nat.sub_le 200 X); omega) (by decide) (by decide)]
    have hS : B * (200 - X) / 200 ≤ B := by
      have := Nat.mul_le_mul (Nat.le_refl B) (Nat.sub_le 200 X); omega
    have hok := sh_ok B (by omega) B1 _ hS
    have s1 : fX7_strength J o (nI i) = nI (B * (200 - X) / 200) := by unfold fX7_strength; rw [of_0 hi8, of_2 hi8, B3, X2]; exact e
    have s2 : fX0_strength I c = nI (B * (200 - X) / 200) := by unfold fX0_strength; rw [g0, g2, B3, X2]; exact e
    refine ⟨?_, ?_, fun _ => ?_⟩
    · show (if 1 ≤ I c 0 then (shBits (fX0_strength I c) (I c 0)).toInt32 else (-2000000001)) = _
      rw [g0, B3, if_pos (show (1 : Int32) ≤ nI B from nI_le (a := 1) (b := B) (by omega) (by omega)), s1, s2, of_0 hi8, B3]
    · intro b hb _
      cases hb
      rw [s2, g0, B3]
      exact hok
    · rw [s1, of_0 hi8, B3]
      exact hok
  · rw [e1, e2, if_pos rfl]
    refine ⟨rfl, fun b hb _ => ?_, fun q => absurd rfl q⟩
    cases hb
theorem no_out {x : Int32} (hx : ∀ k, k < 24 → ¬ x = nI k) (h1 : x < 0 ∨ nI 24 ≤ x) : fX2_numberOf I h x = (-2000000001) ∧ fX7_count J o x = (-2000000001) := by
  unfold fX2_numberOf fX7_count
  constructor
  · rcases h1 with h1 | h1
    · rw [if_pos (Int32.lt_trans h1 (by decide)), if_neg (show ¬ x = 0 from hx 0 (by decide)), if_neg (show ¬ x = 1 from hx 1 (by decide)), if_neg (show ¬ x = 2 from hx 2 (by decide)), if_neg (show ¬ x = 3 from hx 3 (by decide)), if_neg (show ¬ x = 4 from hx 4 (by decide)), if_neg (show ¬ x = 5 from hx 5 (by decide)), if_neg (show ¬ x = 6 from hx 6 (by decide)), if_neg (show ¬ x = 7 from hx 7 (by decide)), if_neg (show ¬ x = 8 from hx 8 (by decide)), if_neg (show ¬ x = 9 from hx 9 (by decide)), if_neg (show ¬ x = 10 from hx 10 (by decide)), if_neg (show ¬ x = 11 from hx 11 (by decide)), if_neg (show ¬ x = 12 from hx 12 (by decide))]
    · rw [if_neg (Int32.not_lt.mpr (Int32.le_trans (by decide) h1)), if_pos (Int32.lt_of_lt_of_le (by decide) h1), if_neg (show ¬ x = 0 from hx 0 (by decide)), if_neg (show ¬ x = 1 from hx 1 (by decide)), if_neg (show ¬ x = 2 from hx 2 (by decide)), if_neg (show ¬ x = 3 from hx 3 (by decide)), if_neg (show ¬ x = 4 from hx 4 (by decide)), if_neg (show ¬ x = 5 from hx 5 (by decide)), if_neg (show ¬ x = 6 from hx 6 (by decide)), if_neg (show ¬ x = 7 from hx 7 (by decide)), if_neg (show ¬ x = 8 from hx 8 (by decide)), if_neg (show ¬ x = 9 from hx 9 (by decide)), if_neg (show ¬ x = 10 from hx 10 (by decide)), if_neg (show ¬ x = 11 from hx 11 (by decide)), if_neg (show ¬ x = 12 from hx 12 (by decide))]
  · rw [if_neg (show ¬ x = 0 from hx 0 (by decide)), if_neg (show ¬ x = 1 from hx 1 (by decide)), if_neg (show ¬ x = 2 from hx 2 (by decide)), if_neg (show ¬ x = 3 from hx 3 (by decide)), if_neg (show ¬ x = 4 from hx 4 (by decide)), if_neg (show ¬ x = 5 from hx 5 (by decide)), if_neg (show ¬ x = 6 from hx 6 (by decide)), if_neg (show ¬ x = 7 from hx 7 (by decide)), if_neg (show ¬ x = 8 from hx 8 (by decide)), if_neg (show ¬ x = 9 from hx 9 (by decide)), if_neg (show ¬ x = 10 from hx 10 (by decide)), if_neg (show ¬ x = 11 from hx 11 (by decide)), if_neg (show ¬ x = 12 from hx 12 (by decide)), if_neg (show ¬ x = 13 from hx 13 (by decide)), if_neg (show ¬ x = 14 from hx 14 (by decide))]
    unfold fX7_in
    rcases h1 with h1 | h1
    · rw [if_pos (Int32.lt_trans h1 (by decide)), if_pos rfl]
    · rw [if_neg (Int32.not_lt.mpr (Int32.le_trans (by decide) h1)), if_pos (Int32.lt_of_lt_of_le (by decide) h1), if_pos rfl]
theorem q_count (hR : Rp nb ni w I h (J (o + 1))) {s t : Nat} (hs : I s 1 = J o 3) (ht : I t 1 = J o 5) (x : Int32) : (if x = 13 then fX1_size I s else if x = 14 then fX4_length I t else fX2_numberOf I h x) = fX7_count J o x := by
  rcases pk_ix x (n := 24) (by decide) with hz | hz | ⟨q, hq, rfl⟩
  · have hn : ∀ k, k < 24 → ¬ x = nI k := fun k hk => ne_out (by decide) (Or.inl hz) hk
    rw [if_neg (show ¬ x = 13 from hn 13 (by decide)), if_neg (show ¬ x = 14 from hn 14 (by decide)), (no_out (I := I) (J := J) (h := h) (o := o) hn (Or.inl hz)).1, (no_out (I := I) (J := J) (h := h) (o := o) hn (Or.inl hz)).2]
  · have hn : ∀ k, k < 24 → ¬ x = nI k := fun k hk => ne_out (by decide) (Or.inr hz) hk
    rw [if_neg (show ¬ x = 13 from hn 13 (by decide)), if_neg (show ¬ x = 14 from hn 14 (by decide)), (no_out (I := I) (J := J) (h := h) (o := o) hn (Or.inr hz)).1, (no_out (I := I) (J := J) (h := h) (o := o) hn (Or.inr hz)).2]
  · obtain ⟨-, ⟨e4, s0, e5, s1, e6, s2, e7, e8⟩, hset, hacc, -, -, h5, h6⟩ := id hR
    have hst : ∀ q, fX2_setOfBoilers I h q = fX7_set0 J o q := fun q => by
      unfold fX2_setOfBoilers fX7_set0
      rw [(cnt0 hR).1, (cnt0 hR).2, q_setN hR q nb (Nat.le_refl _)]
    have hsm := q_sumN hR ni (Nat.le_refl _)
    rcases (show q = 0 ∨ q = 1 ∨ q = 2 ∨ q = 3 ∨ q = 4 ∨ q = 5 ∨ q = 6 ∨ q = 7 ∨ q = 8 ∨ q = 9 ∨ q = 10 ∨ q = 11 ∨ q = 12 ∨ q = 13 ∨ q = 14 ∨ q = 15 ∨ q = 16 ∨ q = 17 ∨ q = 18 ∨ q = 19 ∨ q = 20 ∨ q = 21 ∨ q = 22 ∨ q = 23 by omega) with rfl | rfl | rfl | rfl | rfl | rfl | rfl | rfl | rfl | rfl | rfl | rfl | rfl | rfl | rfl | rfl | rfl | rfl | rfl | rfl | rfl | rfl | rfl | rfl
    · exact e4.trans s0.symm
    · exact e5.trans s1.symm
    · exact e6.trans s2.symm
    · exact hst 3
    · exact hst 4
    · exact hst 5
    · exact hst 6
    · show fX2_allAccounts I h = J (o + 1) 11 + J (o + 1) 12 + J (o + 1) 13 + J (o + 1) 14
      unfold fX2_allAccounts
      rw [lc_0, lc_1, lc_2, lc_3, hacc 0 (by decide), hacc 1 (by decide), hacc 2 (by decide), hacc 3 (by decide), Int32.zero_add]
    · show fX2_allOfInspectors I h 3 = J (o + 1) 5
      unfold fX2_allOfInspectors
      rw [(cnt1 hR).2, hsm.1, h5]
    · show fX2_allOfInspectors I h 4 = J (o + 1) 6
      unfold fX2_allOfInspectors
      rw [(cnt1 hR).2, hsm.2, h6]
    · exact e7
    · exact e8
    · exact hst 12
    · exact hs
    · exact ht
    · rfl
    · rfl
    · rfl
    · rfl
    · rfl
    · exact hset 0 (by decide)
    · exact hset 1 (by decide)
    · exact hset 2 (by decide)
    · exact hset 3 (by decide)
end PQ
