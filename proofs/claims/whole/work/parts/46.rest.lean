section PV
variable {l a : Nat} {A B : jI} {sg : Int32}
theorem r_sgx (T : Tq l a A B) (hf : B 120 10 = 1) {c : Nat} (x : Int32) (hx : x = nI c) (hc : 32 ≤ c) (hc2 : c ≤ 126) : cOnly A (fX4_readSign A 117 x).2 ∧ bOnly B (fX7_takesSign B 120 x) ∧ ∃ a', a ≤ a' ∧ Tq l a' (fX4_readSign A 117 x).2 (fX7_takesSign B 120 x) ∧ (((fX4_readSign A 117 x).1 = 0 ∧ (fX7_takesSign B 120 x) 120 10 = 0) ∨ ((fX4_readSign A 117 x).1 = 1 ∧ (fX7_takesSign B 120 x) 120 10 = 1)) := by
  subst hx
  exact r_sgn T hf hc hc2
/-- what the reading of the rest of an order says -/
def Rd (l a : Nat) (A B : jI) (sg : Int32) (p : Int32 × jI) (q : jI) : Prop :=
  cRd A p.2 ∧ p.2 117 2 = A 117 2 ∧ bRd B q ∧ q 120 7 = B 120 7 ∧ ∃ a', a ≤ a' ∧ Tq l a' p.2 q ∧ ((p.1 = 0 ∧ q 120 10 = 0) ∨ (p.1 = 1 ∧ q 120 10 = 1 ∧ p.2 117 4 = sg ∧ p.2 117 5 = q 120 11 ∧ (sg = 105 → p.2 117 6 = q 120 12)))
set_option maxHeartbeats 1000000 in
theorem r_rest (T : Tq l a A B) (hf : B 120 10 = 1) (hk : A 117 4 = sg) : Rd l a A B sg (cRest A) (tE (tD (tC B 120) 120 sg) 120) := by
  obtain ⟨c1, b1, a1, ha1, T1, hc⟩ := r_num T hf
  have o0 : ¬ (1 : Int32) = 0 := by decide
  unfold tC
  generalize eA : fX4_readNumber A 117 = pA at c1 T1 hc
  generalize eB : fX7_number B 120 = pB at b1 T1 hc ⊢
  obtain ⟨v, A3⟩ := pA
  obtain ⟨q, B3⟩ := pB
  dsimp only at c1 T1 hc b1 ⊢
  have k4 : A3 117 4 = sg := (c1.2 4 (by decide)).trans hk
  have k2 : A3 117 2 = A 117 2 := c1.2 2 (by decide)
  have k7 : B3 120 7 = B 120 7 := b1.2 7 (by decide) (by decide)
  have bb : bRd B (jset B3 120 11 q) := b1.rd.tr (bRd.set (by decide))
  have cc : cRd A (jset A3 117 5 v) := c1.rd.tr (cRd.set (by decide))
  rcases hc with ⟨hv, h0⟩ | ⟨h1, hv, hq⟩
  · have eC : cRest A = (0, jset A3 117 5 v) := by unfold cRest; rw [eA, if_pos hv]
    have z0 : jset B3 120 11 q 120 10 = 0 := by rw [jset_nj (by decide)]; exact h0
    obtain ⟨m1, m2, m3, m4⟩ := m_rest (sg := sg) z0
    rw [eC]
    refine ⟨cc, ?_, bb.tr m1, ?_, a1, ha1, ?_, Or.inl ⟨rfl, m2⟩⟩
    · show jset A3 117 5 v 117 2 = _
      rw [jset_nj (by decide)]; exact k2
    · rw [m4, jset_nj (by decide)]; exact k7
    · exact ((T1.setC (by decide)).setB (by decide)).b6 m1 m3
  · have T5 : Tq l a1 (jset (jset A3 117 5 v) 117 6 0) (jset B3 120 11 q) := ((T1.setC (by decide)).setC (by decide)).setB (by decide)
    have f5 : jset B3 120 11 q 120 10 = 1 := by rw [jset_nj (by decide)]; exact h1
    have cc5 : cRd A (jset (jset A3 117 5 v) 117 6 0) := cc.tr (cRd.set (by decide))
    have g2 : jset (jset A3 117 5 v) 117 6 0 117 2 = A 117 2 := by rw [jset_nj (by decide), jset_nj (by decide)]; exact k2
    have g4 : jset (jset A3 117 5 v) 117 6 0 117 4 = sg := by rw [jset_nj (by decide), jset_nj (by decide)]; exact k4
    have g5 : jset (jset A3 117 5 v) 117 6 0 117 5 = v := by rw [jset_nj (by decide), jset_eq]
    have n7 : jset B3 120 11 q 120 7 = B 120 7 := by rw [jset_nj (by decide)]; exact k7
    have n11 : jset B3 120 11 q 120 11 = q := jset_eq
    generalize eA5 : jset (jset A3 117 5 v) 117 6 0 = A5 at T5 cc5 g2 g4 g5
    generalize eB4 : jset B3 120 11 q = B4 at T5 f5 bb n7 n11 ⊢
    by_cases hs : sg = 105
    · obtain ⟨c2, b2, a2, ha2, T6, hc2⟩ := r_sgx T5 f5 (c := 44) 44 rfl (by decide) (by decide)
      have eD : tD B4 120 sg = jset (fX7_number (fX7_takesSign B4 120 44) 120).2 120 12 (fX7_number (fX7_takesSign B4 120 44) 120).1 := by unfold tD; rw [if_pos hs]
      rw [eD]
      have eC0 : cRest A = if (fX4_readSign A5 117 44).1 = 0 then (0, (fX4_readSign A5 117 44).2)
          else if (fX4_readNumber (fX4_readSign A5 117 44).2 117).1 = -1 then (0, jset (fX4_readNumber (fX4_readSign A5 117 44).2 117).2 117 6 (fX4_readNumber (fX4_readSign A5 117 44).2 117).1)
          else fX4_readSign (jset (fX4_readNumber (fX4_readSign A5 117 44).2 117).2 117 6 (fX4_readNumber (fX4_readSign A5 117 44).2 117).1) 117 59 := by
        unfold cRest
        rw [eA, if_neg hv]
        dsimp only
        rw [if_pos (k4.trans hs), eA5]
      rw [eC0]
      generalize fX4_readSign A5 117 44 = pS at c2 T6 hc2 ⊢
      generalize fX7_takesSign B4 120 44 = B6 at b2 T6 hc2 ⊢
      obtain ⟨sv, A6⟩ := pS
      dsimp only at c2 T6 hc2 ⊢
      have u2 : A6 117 2 = A 117 2 := (c2.2 2 (by decide)).trans g2
      have u4 : A6 117 4 = sg := (c2.2 4 (by decide)).trans g4
      have u5 : A6 117 5 = v := (c2.2 5 (by decide)).trans g5
      have u7 : B6 120 7 = B 120 7 := (b2.2 7 (by decide) (by decide)).trans n7
      have u11 : B6 120 11 = q := (b2.2 11 (by decide) (by decide)).trans n11
      have cc6 := cc5.tr c2.rd
      have bb6 := bb.tr b2.rd
      rcases hc2 with ⟨r1, r2⟩ | ⟨r1, r2⟩
      · rw [if_pos r1, m_num0 r2]
        dsimp only
        have z0 : jset B6 120 12 0 120 10 = 0 := by rw [jset_nj (by decide)]; exact r2
        rw [m_restE z0]
        refine ⟨cc6, u2, bb6.tr (bRd.set (by decide)), by rw [jset_nj (by decide)]; exact u7, a2, by omega, T6.setB (by decide), Or.inl ⟨rfl, z0⟩⟩
      · rw [if_neg (by rw [r1]; exact o0)]
        obtain ⟨c3, b3, a3, ha3, T7, hc3⟩ := r_num T6 r2
        generalize fX4_readNumber A6 117 = pN at c3 T7 hc3 ⊢
        generalize fX7_number B6 120 = pM at b3 T7 hc3 ⊢
        obtain ⟨v2, A7⟩ := pN
        obtain ⟨q2, B7⟩ := pM
        dsimp only at c3 T7 hc3 b3 ⊢
        have w2 : A7 117 2 = A 117 2 := (c3.2 2 (by decide)).trans u2
        have w4 : A7 117 4 = sg := (c3.2 4 (by decide)).trans u4
        have w5 : A7 117 5 = v := (c3.2 5 (by decide)).trans u5
        have w7 : B7 120 7 = B 120 7 := (b3.2 7 (by decide) (by decide)).trans u7
        have w11 : B7 120 11 = q := (b3.2 11 (by decide) (by decide)).trans u11
        have cc7 := (cc6.tr c3.rd).tr (cRd.set (A := A7) (j := 6) (x := v2) (by decide))
        have bb7 := (bb6.tr b3.rd).tr (bRd.set (B := B7) (j := 12) (x := q2) (by decide))
        have T8 : Tq l a3 (jset A7 117 6 v2) (jset B7 120 12 q2) := (T7.setC (by decide)).setB (by decide)
        rcases hc3 with ⟨s1, s2⟩ | ⟨s1, s2, s3⟩
        · have z0 : jset B7 120 12 q2 120 10 = 0 := by rw [jset_nj (by decide)]; exact s2
          rw [if_pos s1, m_restE z0]
          exact ⟨cc7, by show jset A7 117 6 v2 117 2 = _; rw [jset_nj (by decide)]; exact w2, bb7, by rw [jset_nj (by decide)]; exact w7, a3, by omega, T8, Or.inl ⟨rfl, z0⟩⟩
        · rw [if_neg s2]
          have f8 : jset B7 120 12 q2 120 10 = 1 := by rw [jset_nj (by decide)]; exact s1
          obtain ⟨c4, b4, a4, ha4, T9, hc4⟩ := r_sgx T8 f8 (c := 59) 59 rfl (by decide) (by decide)
          refine ⟨cc7.tr c4.rd, ?_, bb7.tr b4.rd, ?_, a4, by omega, T9, ?_⟩
          · rw [c4.2 2 (by decide), jset_nj (by decide)]; exact w2
          · show fX7_takesSign (jset B7 120 12 q2) 120 59 120 7 = _
            rw [b4.2 7 (by decide) (by decide), jset_nj (by decide)]; exact w7
          · rcases hc4 with ⟨x1, x2⟩ | ⟨x1, x2⟩
            · exact Or.inl ⟨x1, x2⟩
            · refine Or.inr ⟨x1, x2, ?_, ?_, fun _ => ?_⟩
              · rw [c4.2 4 (by decide), jset_nj (by decide)]; exact w4
              · show _ = fX7_takesSign (jset B7 120 12 q2) 120 59 120 11
                rw [c4.2 5 (by decide), jset_nj (by decide), b4.2 11 (by decide) (by decide), jset_nj (by decide), w5, w11]; exact hq
              · show _ = fX7_takesSign (jset B7 120 12 q2) 120 59 120 12
                rw [c4.2 6 (by decide), jset_eq, b4.2 12 (by decide) (by decide), jset_eq]; exact s3
    · have eD : tD B4 120 sg = B4 := by unfold tD; rw [if_neg hs]
      have eC : cRest A = fX4_readSign A5 117 59 := by
        unfold cRest
        rw [eA, if_neg hv]
        dsimp only
        rw [if_neg (by rw [k4]; exact hs), eA5]
      rw [eD, eC]
      obtain ⟨c4, b4, a4, ha4, T9, hc4⟩ := r_sgx T5 f5 (c := 59) 59 rfl (by decide) (by decide)
      refine ⟨cc5.tr c4.rd, ?_, bb.tr b4.rd, ?_, a4, by omega, T9, ?_⟩
      · rw [c4.2 2 (by decide)]; exact g2
      · show fX7_takesSign B4 120 59 120 7 = _
        rw [b4.2 7 (by decide) (by decide)]; exact n7
      · rcases hc4 with ⟨x1, x2⟩ | ⟨x1, x2⟩
        · exact Or.inl ⟨x1, x2⟩
        · refine Or.inr ⟨x1, x2, ?_, ?_, fun h => absurd h hs⟩
          · rw [c4.2 4 (by decide)]; exact g4
          · show _ = fX7_takesSign B4 120 59 120 11
            rw [c4.2 5 (by decide), b4.2 11 (by decide) (by decide), g5, n11]; exact hq
end PV
