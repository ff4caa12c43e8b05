theorem ret_beg {I : jI} {o : Nat} : fX7_returns (fX7_begins I o) o = fX7_begins I o := by
  unfold fX7_returns fX7_begins
  funext a k
  by_cases h1 : a = o + 1
  · subst h1
    rw [jrow_eq]
    by_cases h2 : k < 141
    · rw [if_pos h2, jrow_eq, if_pos h2, jrow_ne (by omega)]
    · rw [if_neg h2]
  · rw [jrow_ne h1]
theorem acted_err {I : jI} {o : Nat} {e : Int32} (h : ¬ (-2000000001) < e) : fX7_acted (fX7_begins I o) o e = (e, fX7_begins I o) := by
  unfold fX7_acted
  rw [if_neg h, ret_beg]
def m_inspector (J : jI) (o : Nat) (x : Int32) (y : Int32) : Int32 × jI :=
  if (fX7_in J x 0 1) = 0 then
    ((-2000000001), J)
  else
    if (fX7_in J y 1 3) = 0 then
      ((-2000000001), J)
    else
      if (J (o + 1) ((1 : Int32).toNatClampNeg)) = 6 then
        ((-2000000003), J)
      else
        ((((jset (jset (jset (jset (jset (jset J (o + 1) (((111 + (5 * (J (o + 1) ((1 : Int32).toNatClampNeg)))) + 0)).toNatClampNeg x) (o + 1) (((111 + (5 * (J (o + 1) ((1 : Int32).toNatClampNeg)))) + 1)).toNatClampNeg y) (o + 1) (((111 + (5 * (J (o + 1) ((1 : Int32).toNatClampNeg)))) + 2)).toNatClampNeg 0) (o + 1) (((111 + (5 * (J (o + 1) ((1 : Int32).toNatClampNeg)))) + 3)).toNatClampNeg 0) (o + 1) (((111 + (5 * (J (o + 1) ((1 : Int32).toNatClampNeg)))) + 4)).toNatClampNeg 0) (o + 1) ((1 : Int32).toNatClampNeg) (((jset (jset (jset (jset (jset J (o + 1) (((111 + (5 * (J (o + 1) ((1 : Int32).toNatClampNeg)))) + 0)).toNatClampNeg x) (o + 1) (((111 + (5 * (J (o + 1) ((1 : Int32).toNatClampNeg)))) + 1)).toNatClampNeg y) (o + 1) (((111 + (5 * (J (o + 1) ((1 : Int32).toNatClampNeg)))) + 2)).toNatClampNeg 0) (o + 1) (((111 + (5 * (J (o + 1) ((1 : Int32).toNatClampNeg)))) + 3)).toNatClampNeg 0) (o + 1) (((111 + (5 * (J (o + 1) ((1 : Int32).toNatClampNeg)))) + 4)).toNatClampNeg 0) (o + 1) ((1 : Int32).toNatClampNeg)) + 1)) (o + 1) ((1 : Int32).toNatClampNeg)) - 1), (jset (jset (jset (jset (jset (jset J (o + 1) (((111 + (5 * (J (o + 1) ((1 : Int32).toNatClampNeg)))) + 0)).toNatClampNeg x) (o + 1) (((111 + (5 * (J (o + 1) ((1 : Int32).toNatClampNeg)))) + 1)).toNatClampNeg y) (o + 1) (((111 + (5 * (J (o + 1) ((1 : Int32).toNatClampNeg)))) + 2)).toNatClampNeg 0) (o + 1) (((111 + (5 * (J (o + 1) ((1 : Int32).toNatClampNeg)))) + 3)).toNatClampNeg 0) (o + 1) (((111 + (5 * (J (o + 1) ((1 : Int32).toNatClampNeg)))) + 4)).toNatClampNeg 0) (o + 1) ((1 : Int32).toNatClampNeg) (((jset (jset (jset (jset (jset J (o + 1) (((111 + (5 * (J (o + 1) ((1 : Int32).toNatClampNeg)))) + 0)).toNatClampNeg x) (o + 1) (((111 + (5 * (J (o + 1) ((1 : Int32).toNatClampNeg)))) + 1)).toNatClampNeg y) (o + 1) (((111 + (5 * (J (o + 1) ((1 : Int32).toNatClampNeg)))) + 2)).toNatClampNeg 0) (o + 1) (((111 + (5 * (J (o + 1) ((1 : Int32).toNatClampNeg)))) + 3)).toNatClampNeg 0) (o + 1) (((111 + (5 * (J (o + 1) ((1 : Int32).toNatClampNeg)))) + 4)).toNatClampNeg 0) (o + 1) ((1 : Int32).toNatClampNeg)) + 1)))
theorem m_inspector_ok (I : jI) (o : Nat) (x y : Int32) : fX7_inspector I o x y = fX7_acted (m_inspector (fX7_begins I o) o x y).2 o (m_inspector (fX7_begins I o) o x y).1 := by
  unfold fX7_inspector m_inspector
  repeat' split
  all_goals first
    | rfl
    | exact (acted_err (by decide)).symm
def m_press (J : jI) (o : Nat) (x : Int32) (y : Int32) : Int32 × jI :=
  if (fX7_isBoiler J o x) = 0 then
    ((-2000000001), J)
  else
    if (fX7_in J y 1 (fX7_of J o x 0)) = 0 then
      ((-2000000001), J)
    else
      if (fX7_of J o x 3) = 1 then
        if y ≤ (fX7_of J o x 10) then
          ((fX7_of J o x 1), (fX7_lays J o x 1 y))
        else
          ((-2000000002), J)
      else
        ((fX7_of J o x 1), (fX7_lays J o x 1 y))
theorem m_press_ok (I : jI) (o : Nat) (x y : Int32) : fX7_press I o x y = fX7_acted (m_press (fX7_begins I o) o x y).2 o (m_press (fX7_begins I o) o x y).1 := by
  unfold fX7_press m_press
  repeat' split
  all_goals first
    | rfl
    | exact (acted_err (by decide)).symm
def m_plan (J : jI) (o : Nat) (x : Int32) (y : Int32) (z : Int32) : Int32 × jI :=
  if (fX7_isBoiler J o x) = 0 then
    ((-2000000001), J)
  else
    if (fX7_in J y (J (o + 1) ((2 : Int32).toNatClampNeg)) 9999) = 0 then
      ((-2000000001), J)
    else
      if (fX7_in J z 1 20) = 0 then
        ((-2000000001), J)
      else
        if y = (J (o + 1) ((2 : Int32).toNatClampNeg)) then
          if (fX7_of J o x 3) = 1 then
            ((-2000000002), J)
          else
            ((fX7_of (fX7_lays (fX7_lays J o x 7 y) o x 8 ((y + z) - 1)) o x 8), (fX7_lays (fX7_lays J o x 7 y) o x 8 ((y + z) - 1)))
        else
          ((fX7_of (fX7_lays (fX7_lays J o x 7 y) o x 8 ((y + z) - 1)) o x 8), (fX7_lays (fX7_lays J o x 7 y) o x 8 ((y + z) - 1)))
theorem m_plan_ok (I : jI) (o : Nat) (x y z : Int32) : fX7_plan I o x y z = fX7_acted (m_plan (fX7_begins I o) o x y z).2 o (m_plan (fX7_begins I o) o x y z).1 := by
  unfold fX7_plan m_plan
  repeat' split
  all_goals first
    | rfl
    | exact (acted_err (by decide)).symm
def m_set (J : jI) (o : Nat) (x : Int32) (y : Int32) : Int32 × jI :=
  if (fX7_in J x 0 3) = 0 then
    ((-2000000001), J)
  else
    if 2 ≤ x then
      if (fX7_in J y 0 99) = 0 then
        ((-2000000001), J)
      else
        ((J (o + 1) ((7 + x)).toNatClampNeg), (jset J (o + 1) ((7 + x)).toNatClampNeg y))
    else
      if (fX7_in J y 0 200) = 0 then
        ((-2000000001), J)
      else
        ((J (o + 1) ((7 + x)).toNatClampNeg), (jset J (o + 1) ((7 + x)).toNatClampNeg y))
theorem m_set_ok (I : jI) (o : Nat) (x y : Int32) : fX7_set I o x y = fX7_acted (m_set (fX7_begins I o) o x y).2 o (m_set (fX7_begins I o) o x y).1 := by
  unfold fX7_set m_set
  repeat' split
  all_goals first
    | rfl
    | exact (acted_err (by decide)).symm
section PG
variable {nb ni w : Nat} {I I' J J' : jI} {h o : Nat} {s s' : Nat → Int32}
theorem o_boiler (hR : R I h (J (o + 1))) (x : Int32) : OPC I J h o (fX2_addBoiler I h x) (fX7_comes J o x) := by
  have hR0 := hR
  obtain ⟨nb, ni, w, hR⟩ := hR
  unfold fX2_addBoiler fX7_comes fX7_in
  by_cases c1 : x < 2
  · rw [if_pos c1, if_pos c1, if_pos rfl]
    exact OPC.err hR0
  · rw [if_neg c1, if_neg c1]
    by_cases c2 : x ≤ 40
    · rw [if_pos c2, if_neg (Int32.not_lt.mpr c2), if_neg one0]
      obtain ⟨h8, ⟨f4, s0, f5, s1, f6, s2, f7, f8⟩, z2, z3, z4, z5, z6, z7⟩ := id hR
      simp only [lc_0, s0, f4]
      by_cases c3 : nb < 8
      · rw [if_pos (show nI nb < 8 from nI_lt (a := nb) (b := 8) c3 (by decide)), if_neg (show ¬ nI nb = 8 from fun q => by have := (nI_eq (a := nb) (b := 8) (by omega) (by decide)).mp q; omega), nI_1]
        have eb : fX2_boilerAt (jset I h 4 (nI (nb + 1))) h (nI nb) = some (h + 5 + nb) := boilerAt_ok (n := nb + 1) (by omega) jset_eq (by omega)
        rw [eb]
        simp only [lays_0 c3, lays_1 c3, lays_2 c3, lays_3 c3, lays_4 c3, lays_5 c3, lays_6 c3, lays_7 c3, lays_8 c3, lays_9 c3, lays_10 c3, lays_11 c3]
        obtain ⟨B, hB, rfl⟩ := nI_of (x := x) (fun q => c1 (Int32.lt_trans q (by decide)))
        have hB1 : 2 ≤ B := by
          apply Nat.le_of_not_lt
          intro q
          exact c1 (nI_lt (a := B) (b := 2) q (by decide))
        have hB2 : B ≤ 40 := (nI_leI (a := B) (b := 40) hB (by decide)).mp c2
        show OPC I J h o (nI nb, fX0_begin (jset I h 4 (nI (nb + 1))) (h + 5 + nb) (nI B)) _
        refine ⟨rfl, ⟨nb + 1, ni, w, ⟨by omega, by omega, by omega⟩, ⟨?_, ?_, ?_, ?_, ?_, ?_, ?_, ?_⟩, fun j hj => ?_, fun j hj => ?_, fun a ha => ?_, fun a ha => ?_, ?_, ?_⟩, fun a ha => ?_, fun a ha => ?_⟩
        · show fX0_begin _ _ _ h 4 = _; rw [oX0_begin (by omega)]; exact jset_eq
        · simp (disch := omega) only [jset_nj, jset_eq]
        · show fX0_begin _ _ _ h 5 = _; rw [oX0_begin (by omega), jset_nj (by omega)]; exact f5
        · simp (disch := omega) only [jset_nj]; exact s1
        · show fX0_begin _ _ _ h 6 = _; rw [oX0_begin (by omega), jset_nj (by omega)]; exact f6
        · simp (disch := omega) only [jset_nj]; exact s2
        · show fX0_begin _ _ _ h 7 = _; rw [oX0_begin (by omega), jset_nj (by omega)]; simp (disch := omega) only [jset_nj]; exact f7
        · show fX0_begin _ _ _ h 8 = _; rw [oX0_begin (by omega), jset_nj (by omega)]; simp (disch := omega) only [jset_nj]; exact f8
        · show fX0_begin _ _ _ (h + 3) j = _; rw [oX0_begin (by omega), jset_na (by omega)]; simp (disch := omega) only [jset_nj]; exact z2 j hj
        · show fX0_begin _ _ _ (h + 4) j = _; rw [oX0_begin (by omega), jset_na (by omega)]; simp (disch := omega) only [jset_nj]; exact z3 j hj
        · by_cases e : a = nb
          · subst e
            unfold bR fX0_begin
            simp (disch := omega) only [jset_nj, jset_eq]
            exact ⟨⟨trivial, trivial, trivial, trivial, trivial, trivial⟩, Or.inl trivial, Or.inr ⟨trivial, trivial⟩, Or.inr ⟨trivial, trivial⟩, ⟨B, hB1, hB2, rfl⟩, ⟨B, hB2, rfl⟩, ⟨0, by omega, rfl⟩, Or.inl trivial⟩
          · refine (z4 a (by omega)).congr ?_ (fun k hk => ?_)
            · show fX0_begin _ _ _ (h + 5 + a) = _; rw [oX0_begin (by omega), jset_nf (by omega)]
            · simp (disch := omega) only [jset_nj]
        · refine (z5 a (by omega)).congr ?_ (fun k hk => ?_)
          · show fX0_begin _ _ _ (h + 13 + a) = _; rw [oX0_begin (by omega), jset_nf (by omega)]
          · simp (disch := omega) only [jset_nj]
        · simp (disch := omega) only [jset_nj]; exact z6
        · simp (disch := omega) only [jset_nj]; exact z7
        · show fX0_begin _ _ _ a = _; rw [oX0_begin (by omega), jset_nf (by omega)]
        · simp (disch := omega) only [jset_nf]
      · have : nb = 8 := by omega
        subst this
        rw [if_neg (show ¬ nI 8 < 8 by decide), if_pos (show nI 8 = 8 from rfl)]
        exact OPC.err hR0
    · rw [if_neg c2, if_pos (Int32.not_le.mp c2), if_pos rfl]
      exact OPC.err hR0
theorem o_inspector (hR : R I h (J (o + 1))) (x y : Int32) : OPC I J h o (fX2_addInspector I h x y) (m_inspector J o x y) := by
  have hR0 := hR
  obtain ⟨nb, ni, w, hR⟩ := hR
  unfold fX2_addInspector m_inspector
  rcases pk_ix x (n := 2) (by decide) with hx | hx | ⟨q, hq, rfl⟩
  · have hn : ∀ k, k < 2 → ¬ x = nI k := fun k hk => ne_out (by decide) (Or.inl hx) hk
    rw [in_no (z := 1) (m := 1) rfl (by decide) (Or.inl hx), if_pos rfl]
    unfold fX6_isInsurer
    rw [if_neg (show ¬ x = 0 from hn 0 (by decide)), if_neg (show ¬ x = 1 from hn 1 (by decide)), if_pos rfl]
    exact OPC.err hR0
  · have hn : ∀ k, k < 2 → ¬ x = nI k := fun k hk => ne_out (by decide) (Or.inr hx) hk
    rw [in_no (z := 1) (m := 1) rfl (by decide) (Or.inr hx), if_pos rfl]
    unfold fX6_isInsurer
    rw [if_neg (show ¬ x = 0 from hn 0 (by decide)), if_neg (show ¬ x = 1 from hn 1 (by decide)), if_pos rfl]
    exact OPC.err hR0
  · have hq2 : nI q = 0 ∨ nI q = 1 := by rcases (show q = 0 ∨ q = 1 by omega) with rfl | rfl <;> first | exact Or.inl rfl | exact Or.inr rfl
    have hI : fX6_isInsurer I (nI q) = 1 := by rcases hq2 with e | e <;> rw [e] <;> rfl
    rw [in_y (j := q) (z := 1) (m := 1) rfl (by omega) (by decide), if_neg one0, hI, if_neg one0]
    unfold fX7_in
    by_cases c1 : y < 1
    · rw [if_pos c1, if_pos c1, if_pos rfl]
      exact OPC.err hR0
    · rw [if_neg c1, if_neg c1]
      by_cases c2 : y ≤ 3
      · rw [if_pos c2, if_neg (Int32.not_lt.mpr c2), if_neg one0]
        obtain ⟨h8, ⟨f4, s0, f5, s1, f6, s2, f7, f8⟩, z2, z3, z4, z5, z6, z7⟩ := id hR
        simp only [lc_1, s1, f5]
        by_cases c3 : ni < 6
        · rw [if_pos (show nI ni < 6 from nI_lt (a := ni) (b := 6) c3 (by decide)), if_neg (show ¬ nI ni = 6 from fun q => by have := (nI_eq (a := ni) (b := 6) (by omega) (by decide)).mp q; omega), nI_1]
          have eb : fX2_inspectorAt (jset I h 5 (nI (ni + 1))) h (nI ni) = some (h + 13 + ni) := inspectorAt_ok (n := ni + 1) (by omega) jset_eq (by omega)
          rw [eb]
          simp only [jbyn (w := 0) (k := 0) c3 rfl (by decide), jbyn (w := 1) (k := 1) c3 rfl (by decide), jbyn (w := 2) (k := 2) c3 rfl (by decide), jbyn (w := 3) (k := 3) c3 rfl (by decide), jbyn (w := 4) (k := 4) c3 rfl (by decide)]
          obtain ⟨B, hB, rfl⟩ := nI_of (x := y) (fun q => c1 (Int32.lt_trans q (by decide)))
          have hB2 : B ≤ 3 := (nI_leI (a := B) (b := 3) hB (by decide)).mp c2
          show OPC I J h o (nI ni, fX3_begin (jset I h 5 (nI (ni + 1))) (h + 13 + ni) (nI q) (nI B)) _
          refine ⟨?_, ⟨nb, ni + 1, w, ⟨by omega, by omega, by omega⟩, ⟨?_, ?_, ?_, ?_, ?_, ?_, ?_, ?_⟩, fun j hj => ?_, fun j hj => ?_, fun a ha => ?_, fun a ha => ?_, ?_, ?_⟩, fun a ha => ?_, fun a ha => ?_⟩
          · simp (disch := omega) only [jset_nj, jset_eq]; rw [s1, nI_1, nI_pred]
          · show fX3_begin _ _ _ _ h 4 = _; rw [oX3_begin (by omega), jset_nj (by omega)]; exact f4
          · simp (disch := omega) only [jset_nj]; exact s0
          · show fX3_begin _ _ _ _ h 5 = _; rw [oX3_begin (by omega)]; exact jset_eq
          · simp (disch := omega) only [jset_nj, jset_eq]; rw [s1, nI_1]
          · show fX3_begin _ _ _ _ h 6 = _; rw [oX3_begin (by omega), jset_nj (by omega)]; exact f6
          · simp (disch := omega) only [jset_nj]; exact s2
          · show fX3_begin _ _ _ _ h 7 = _; rw [oX3_begin (by omega), jset_nj (by omega)]; simp (disch := omega) only [jset_nj]; exact f7
          · show fX3_begin _ _ _ _ h 8 = _; rw [oX3_begin (by omega), jset_nj (by omega)]; simp (disch := omega) only [jset_nj]; exact f8
          · show fX3_begin _ _ _ _ (h + 3) j = _; rw [oX3_begin (by omega), jset_na (by omega)]; simp (disch := omega) only [jset_nj]; exact z2 j hj
          · show fX3_begin _ _ _ _ (h + 4) j = _; rw [oX3_begin (by omega), jset_na (by omega)]; simp (disch := omega) only [jset_nj]; exact z3 j hj
          · refine (z4 a (by omega)).congr ?_ (fun k hk => ?_)
            · show fX3_begin _ _ _ _ (h + 5 + a) = _; rw [oX3_begin (by omega), jset_nf (by omega)]
            · simp (disch := omega) only [jset_nj]
          · by_cases e : a = ni
            · subst e
              unfold iR fX3_begin
              simp (disch := omega) only [jset_nj, jset_eq]
              exact ⟨⟨trivial, trivial, trivial, trivial, trivial⟩, hq2, B, 0, rfl, rfl, by omega, hB2⟩
            · refine (z5 a (by omega)).congr ?_ (fun k hk => ?_)
              · show fX3_begin _ _ _ _ (h + 13 + a) = _; rw [oX3_begin (by omega), jset_nf (by omega)]
              · simp (disch := omega) only [jset_nj]
          · simp (disch := omega) only [jset_nj]
            show J (o + 1) 5 = sm _ ni + _
            rw [z6]
            simp (disch := omega) only [jset_nj, jset_eq]
            rw [Int32.add_zero]
            exact (sm_congr (fun k hk => by simp (disch := omega) only [jset_nj])).symm
          · simp (disch := omega) only [jset_nj]
            show J (o + 1) 6 = sm _ ni + _
            rw [z7]
            simp (disch := omega) only [jset_nj, jset_eq]
            rw [Int32.add_zero]
            exact (sm_congr (fun k hk => by simp (disch := omega) only [jset_nj])).symm
          · show fX3_begin _ _ _ _ a = _; rw [oX3_begin (by omega), jset_nf (by omega)]
          · simp (disch := omega) only [jset_nf]
        · have : ni = 6 := by omega
          subst this
          rw [if_neg (show ¬ nI 6 < 6 by decide), if_pos (show nI 6 = 6 from rfl)]
          exact OPC.err hR0
      · rw [if_neg c2, if_pos (Int32.not_le.mp c2), if_pos rfl]
        exact OPC.err hR0
theorem o_press (hR : R I h (J (o + 1))) (x y : Int32) : OPC I J h o (fX2_changePressure I h x y) (m_press J o x y) := by
  have hR0 := hR
  obtain ⟨nb, ni, w, hR⟩ := hR
  unfold fX2_changePressure m_press
  rcases hR.bx x with ⟨i, hi, hi8, rfl, e1, e2⟩ | ⟨e1, e2⟩
  · rw [e1, e2, if_neg one0]
    have hb := hR.b hi
    rw [of_0 hi8, of_3 hi8, of_10 hi8, of_1 hi8, lays_1 hi8]
    obtain ⟨⟨g0, g1, g2, g3, g4, g6⟩, ht, hp, hs, ⟨B, B1, B2, B3⟩, ⟨W, W1, W2⟩, hX, h6⟩ := id hb
    show OPC I J h o (if y < 1 then _ else if y ≤ I (h + 5 + i) 0 then _ else _) _
    unfold fX7_in
    by_cases c1 : y < 1
    · rw [if_pos c1, if_pos c1, if_pos rfl]
      exact OPC.err hR0
    · rw [if_neg c1, if_neg c1, g0]
      by_cases c2 : y ≤ J (o + 1) (15 + 12 * i + 0)
      · rw [if_pos c2, if_neg (Int32.not_lt.mpr c2), if_neg one0, g3, g1]
        obtain ⟨C, hC, rfl⟩ := nI_of (x := y) (fun q => c1 (Int32.lt_trans q (by decide)))
        have hC2 : C ≤ 40 := by
          rw [B3, nI_leI hC (by omega)] at c2
          omega
        have hok : OPC I J h o (J (o + 1) (15 + 12 * i + 1), jset I (h + 5 + i) 1 (nI C)) (J (o + 1) (15 + 12 * i + 1), jset J (o + 1) (15 + 12 * i + 1) (nI C)) := by
          refine ⟨rfl, ⟨nb, ni, w, hR.upB hi (fun a ha => jset_nf ha) (fun k hk => jset_nj (by omega)) ?_⟩, fun a ha => jset_nf (by omega), fun a ha => jset_nf ha⟩
          unfold bR at hb ⊢
          simp (disch := omega) only [jset_eq, jset_nj]
          exact ⟨⟨g0, trivial, g2, g3, g4, g6⟩, ht, hp, hs, ⟨B, B1, B2, B3⟩, ⟨C, hC2, rfl⟩, hX, h6⟩
        by_cases c3 : J (o + 1) (15 + 12 * i + 3) = 1
        · rw [if_pos c3, if_pos c3]
          have e9 : I (h + 5 + i) 9 = J (o + 1) (15 + 12 * i + 10) := by
            rcases hp with ⟨-, -, u, -⟩ | ⟨u, -⟩
            · exact u
            · rcases ht with t | ⟨t, t7⟩ | ⟨t, -⟩
              · rw [t] at c3; exact absurd c3 (by decide)
              · rw [t7] at u; exact absurd u (by decide)
              · rw [t] at c3; exact absurd c3 (by decide)
          rw [e9]
          by_cases c4 : nI C ≤ J (o + 1) (15 + 12 * i + 10)
          · rw [if_pos c4, if_pos c4]; exact hok
          · rw [if_neg c4, if_neg c4]; exact OPC.err hR0
        · rw [if_neg c3, if_neg c3]; exact hok
      · rw [if_neg c2, if_pos (Int32.not_le.mp c2), if_pos rfl]
        exact OPC.err hR0
  · rw [e1, e2, if_pos rfl]
    exact OPC.err hR0
theorem o_plan (hR : R I h (J (o + 1))) (x y z : Int32) : OPC I J h o (fX2_planShutdown I h x y z) (m_plan J o x y z) := by
  have hR0 := hR
  obtain ⟨nb, ni, w, hR⟩ := hR
  unfold fX2_planShutdown m_plan
  rcases hR.bx x with ⟨i, hi, hi8, rfl, e1, e2⟩ | ⟨e1, e2⟩
  · rw [e1, e2, if_neg one0]
    have hb := hR.b hi
    simp only [of_3 hi8, of_8 hi8, lays_7 hi8, lays_8 hi8, lc_2]
    obtain ⟨⟨g0, g1, g2, g3, g4, g6⟩, ht, hp, hs, hB, hW, hX, h6⟩ := id hb
    show OPC I J h o (if y < I h 6 then _ else _) _
    unfold fX7_in
    rw [hR.hw, hR.ww]
    by_cases c1 : y < nI w
    · rw [if_pos c1, if_pos c1, if_pos rfl]
      exact OPC.err hR0
    · rw [if_neg c1, if_neg c1]
      by_cases c2 : y ≤ 9999
      · rw [if_pos c2, if_neg (Int32.not_lt.mpr c2), if_neg one0]
        by_cases c3 : z < 1
        · rw [if_pos c3, if_pos c3, if_pos rfl]
          exact OPC.err hR0
        · rw [if_neg c3, if_neg c3]
          by_cases c4 : z ≤ 20
          · rw [if_pos c4, if_neg (Int32.not_lt.mpr c4), if_neg one0]
            obtain ⟨C, hC, rfl⟩ := nI_of (x := y) (fun q => c1 (Int32.lt_of_lt_of_le q (nI_pos' (by have := hR.1; omega))))
            have hC2 : C ≤ 9999 := (nI_leI (a := C) (b := 9999) hC (by decide)).mp c2
            have hok : OPC I J h o ((jset (jset (jset I (h + 5 + i) 11 1) (h + 5 + i) 12 (nI C)) (h + 5 + i) 13 (nI C + z - 1)) (h + 5 + i) 13, jset (jset (jset I (h + 5 + i) 11 1) (h + 5 + i) 12 (nI C)) (h + 5 + i) 13 (nI C + z - 1)) (jset (jset J (o + 1) (15 + 12 * i + 7) (nI C)) (o + 1) (15 + 12 * i + 8) (nI C + z - 1) (o + 1) (15 + 12 * i + 8), jset (jset J (o + 1) (15 + 12 * i + 7) (nI C)) (o + 1) (15 + 12 * i + 8) (nI C + z - 1)) := by
              refine ⟨?_, ⟨nb, ni, w, hR.upB hi (fun a ha => ?_) (fun k hk => ?_) ?_⟩, fun a ha => ?_, fun a ha => ?_⟩
              · show jset _ _ _ _ _ _ = jset _ _ _ _ _ _; rw [jset_eq, jset_eq]
              · simp (disch := omega) only [jset_nf]
              · simp (disch := omega) only [jset_nj]
              · unfold bR at hb ⊢
                simp (disch := omega) only [jset_eq, jset_nj]
                exact ⟨⟨g0, g1, g2, g3, g4, g6⟩, ht, hp, Or.inl ⟨trivial, trivial, trivial, C, rfl, by omega⟩, hB, hW, hX, h6⟩
              · simp (disch := omega) only [jset_nf]
              · simp (disch := omega) only [jset_nf]
            by_cases c5 : nI C = nI w
            · rw [if_pos c5, if_pos c5, g3]
              by_cases c6 : J (o + 1) (15 + 12 * i + 3) = 1
              · rw [if_pos c6, if_pos c6]; exact OPC.err hR0
              · rw [if_neg c6, if_neg c6]; exact hok
            · rw [if_neg c5, if_neg c5]; exact hok
          · rw [if_neg c4, if_pos (Int32.not_le.mp c4), if_pos rfl]
            exact OPC.err hR0
      · rw [if_neg c2, if_pos (Int32.not_le.mp c2), if_pos rfl]
        exact OPC.err hR0
  · rw [e1, e2, if_pos rfl]
    exact OPC.err hR0
theorem o_set (hR : R I h (J (o + 1))) (x y : Int32) : OPC I J h o (fX2_changeSetting I h x y) (m_set J o x y) := by
  have hR0 := hR
  obtain ⟨nb, ni, w, hR⟩ := hR
  unfold fX2_changeSetting m_set
  rcases pk_ix x (n := 4) (by decide) with hx | hx | ⟨q, hq, rfl⟩
  · rw [in_no (z := 3) (m := 3) rfl (by decide) (Or.inl hx), if_pos rfl, if_pos hx]
    exact OPC.err hR0
  · have h0 : ¬ x < 0 := Int32.not_lt.mpr (Int32.le_trans (by decide) hx)
    rw [in_no (z := 3) (m := 3) rfl (by decide) (Or.inr hx), if_pos rfl, if_neg h0, if_pos (show (4 : Int32) ≤ x from hx)]
    exact OPC.err hR0
  · rw [in_y (j := q) (z := 3) (m := 3) rfl (by omega) (by decide), if_neg one0, if_neg (nI_pos (n := q) (by omega)), if_neg (show ¬ (4 : Int32) ≤ nI q from nI_ge (a := q) (b := 4) hq (by decide)), if_pos (show nI q < 4 from nI_lt (a := q) (b := 4) hq (by decide)), nI_clamp (by omega), show (7 : Int32) + nI q = nI (7 + q) from nI_add 7 q, nI_clamp (by omega)]
    have hok : OPC I J h o (I (h + 3) q, jset I (h + 3) q y) (J (o + 1) (7 + q), jset J (o + 1) (7 + q) y) := by
      obtain ⟨h8, ⟨f4, s0, f5, s1, f6, s2, f7, f8⟩, z2, z3, z4, z5, z6, z7⟩ := id hR
      refine ⟨z2 q hq, ⟨nb, ni, w, h8, ⟨?_, ?_, ?_, ?_, ?_, ?_, ?_, ?_⟩, fun j hj => ?_, fun j hj => ?_, fun a ha => ?_, fun a ha => ?_, ?_, ?_⟩, fun a ha => ?_, fun a ha => ?_⟩
      · simp (disch := omega) only [jset_na]; exact f4
      · simp (disch := omega) only [jset_nj]; exact s0
      · simp (disch := omega) only [jset_na]; exact f5
      · simp (disch := omega) only [jset_nj]; exact s1
      · simp (disch := omega) only [jset_na]; exact f6
      · simp (disch := omega) only [jset_nj]; exact s2
      · simp (disch := omega) only [jset_na, jset_nj]; exact f7
      · simp (disch := omega) only [jset_na, jset_nj]; exact f8
      · by_cases e : j = q
        · subst e; simp (disch := omega) only [jset_eq]
        · simp (disch := omega) only [jset_nj]; exact z2 j hj
      · simp (disch := omega) only [jset_na, jset_nj]; exact z3 j hj
      · exact (z4 a ha).congr (jset_nf (by omega)) (fun k hk => by simp (disch := omega) only [jset_nj])
      · exact (z5 a ha).congr (jset_nf (by omega)) (fun k hk => by simp (disch := omega) only [jset_nj])
      · simp (disch := omega) only [jset_nj]; exact z6
      · simp (disch := omega) only [jset_nj]; exact z7
      · simp (disch := omega) only [jset_nf]
      · simp (disch := omega) only [jset_nf]
    unfold fX7_in
    by_cases c1 : y < 0
    · rw [if_pos c1]
      split
      · rw [if_pos rfl]; exact OPC.err hR0
      · rw [if_pos rfl]; exact OPC.err hR0
    · rw [if_neg c1]
      have key : ∀ m : Int32, OPC I J h o (if y ≤ m then (I (h + 3) q, jset I (h + 3) q y) else ((-2000000001), I)) (if (if y < 0 then (0 : Int32) else if m < y then 0 else 1) = 0 then ((-2000000001), J) else (J (o + 1) (7 + q), jset J (o + 1) (7 + q) y)) := by
        intro m
        rw [if_neg c1]
        by_cases c2 : y ≤ m
        · rw [if_pos c2, if_neg (Int32.not_lt.mpr c2), if_neg one0]; exact hok
        · rw [if_neg c2, if_pos (Int32.not_le.mp c2), if_pos rfl]; exact OPC.err hR0
      rcases (show q = 0 ∨ q = 1 ∨ q = 2 ∨ q = 3 by omega) with rfl | rfl | rfl | rfl
      · rw [if_neg (show ¬ (2 : Int32) ≤ nI 0 by decide)]; exact key 200
      · rw [if_neg (show ¬ (2 : Int32) ≤ nI 1 by decide)]; exact key 200
      · rw [if_pos (show (2 : Int32) ≤ nI 2 by decide)]; exact key 99
      · rw [if_pos (show (2 : Int32) ≤ nI 3 by decide)]; exact key 99
end PG
