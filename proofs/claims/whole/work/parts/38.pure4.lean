section PG
variable {nb ni w : Nat} {I I' J J' : jI} {h o : Nat} {s s' : Nat → Int32}
theorem note_n {K : jI} {q a : Nat} {x : Int32} (ha : a ≠ q) : fX3_noteInspection K q x a = K a := oX3_noteInspection ha
/-- an inspection with its answer much (P), of the insurer y (0 or 1) -/
theorem o_inspect (hR : R I h (J (o + 1))) (x y : Int32) : OPC I J h o (fX2_examine I h x y) (fX7_inspects J o x y) := by
  obtain ⟨nb, ni, w, hR⟩ := hR
  unfold fX2_examine fX7_inspects
  rcases hR.bx x with ⟨i, hi, hi8, rfl, e1, e2⟩ | ⟨e1, e2⟩
  · rw [e1, e2, if_neg one0]
    rcases hR.ix y with ⟨j, hj, hj6, rfl, e3, e4⟩ | ⟨e3, e4⟩
    · rw [e3, e4, if_neg one0]
      have hb := hR.b hi
      have hn := hR.i hj
      have h8 := hR.1
      rw [p_whyI hb hi8 hn hj6, by_0 hj6]
      show OPC I J h o (if fX0_whyNotInspectedBy I (h + 5 + i) (h + 13 + j) = 0 then _ else _) _
      by_cases c1 : fX0_whyNotInspectedBy I (h + 5 + i) (h + 13 + j) = 0
      · rw [if_pos c1, if_pos ((whyI_r _).mpr c1)]
        obtain ⟨d1, d2, d3, d4⟩ := whyI0 c1
        obtain ⟨⟨g0, g1, g2, g3, g4, g6⟩, ht, hp, hs, hB, hW, ⟨X, X1, X2⟩, h6⟩ := id hb
        obtain ⟨⟨k0, k1, k2, k3, k4⟩, hits, M, D, m1, m2, m3, m4⟩ := id hn
        obtain ⟨z0, ⟨f4, s0, f5, s1, f6, s2, f7, f8⟩, z2, z3, z4, z5, z6, z7⟩ := id hR
        have t3 : J (o + 1) (15 + 12 * i + 3) = 0 := by
          rcases ht with t | ⟨t, -⟩ | ⟨t, -⟩
          · exact t
          · rw [← g3] at t; exact absurd t d2
          · rw [← g3] at t; exact absurd t d1
        have hD : D < M := by
          unfold fX3_left at d4
          rw [k1, k2, m1, m2, pk_sub m3, show (1 : Int32) = nI 1 from rfl, nI_leI (by omega) (by omega)] at d4
          omega
        rw [k0]
        generalize hi0 : J (o + 1) (111 + 5 * j + 0) = its at hits k0
        obtain ⟨P, P1, P2, P3⟩ := p_prs hb hi8 hR.set hits
        obtain ⟨L, L1, L2, -, -, L5, L6⟩ := p_last (h := h) hb hi8 hR.ww hR.hw hR.1.2.2 its
        rw [P2, P3, L6]
        obtain ⟨q, hq, hqi⟩ : ∃ q : Nat, q < 2 ∧ its = nI q := by
          rcases hits with t | t
          · exact ⟨0, by decide, t⟩
          · exact ⟨1, by decide, t⟩
        subst hqi
        simp only [counts_2 hj6, counts_3 hj6, counts_4 hj6, lays_9 hi8, lays_10 hi8, lays_11 hi8, lays_6 hi8, lc_9, lc_5, lc_6]
        generalize hKp : fX7_pays J o (nI q) (J (o + 1) 9) = Kp
        have p1 : ∀ k, (k < 11 ∨ 15 ≤ k) → Kp (o + 1) k = J (o + 1) k := fun k hk => by rw [← hKp]; exact pays_n (by omega) hk
        have p2 : ∀ a, a ≠ o + 1 → Kp a = J a := fun a ha => by rw [← hKp]; exact pays_a (by omega) ha
        have hlast : ∀ K : jI, K (o + 1) 2 = nI w → K (o + 1) (15 + 12 * i + 2) = J (o + 1) (15 + 12 * i + 2) → fX7_lastBy K o (nI i) (nI q) = nI L := by
          intro K q1 q2
          rw [← L5]
          unfold fX7_lastBy
          rw [of_2 hi8, of_2 hi8, lc_2, q1, q2, hR.ww]
        have hP0 : nI P ≤ 0 ↔ nI P = 0 := by
          rw [show (0 : Int32) = nI 0 from rfl, nI_leI (by omega) (by omega), nI_eq (by omega) (by omega)]; omega
        by_cases c2 : nI P = 0
        · rw [if_pos (hP0.mpr c2), if_pos c2]
          rw [hlast _ (by simp (disch := omega) only [jset_nj, p1]; exact hR.ww) (by simp (disch := omega) only [jset_nj, p1])]
          unfold fX3_noteInspection fX0_refusePaper
          rw [if_pos rfl]
          generalize hK : jset (jset (jset (jset I (h + 5 + i) 7 0) (h + 5 + i) 6 1) (h + 13 + j) 2 (jset (jset I (h + 5 + i) 7 0) (h + 5 + i) 6 1 (h + 13 + j) 2 + 1)) (h + 13 + j) 3 (jset (jset (jset I (h + 5 + i) 7 0) (h + 5 + i) 6 1) (h + 13 + j) 2 (jset (jset I (h + 5 + i) 7 0) (h + 5 + i) 6 1 (h + 13 + j) 2 + 1) (h + 13 + j) 3 + 1) = K
          have r1 : ∀ a, a ≠ h + 5 + i → a ≠ h + 13 + j → K a = I a := fun a u1 u2 => by rw [← hK]; exact (jset_nf u2).trans ((jset_nf u2).trans ((jset_nf u1).trans (jset_nf u1)))
          have r2 : ∀ k, k ≠ 7 → k ≠ 6 → K (h + 5 + i) k = I (h + 5 + i) k := fun k u1 u2 => by rw [← hK]; simp (disch := omega) only [jset_na, jset_nj]
          have r3 : K (h + 5 + i) 7 = 0 := by rw [← hK]; simp (disch := omega) only [jset_na, jset_nj, jset_eq]
          have r4 : K (h + 5 + i) 6 = 1 := by rw [← hK]; simp (disch := omega) only [jset_na, jset_nj, jset_eq]
          have r5 : ∀ k, k ≠ 2 → k ≠ 3 → K (h + 13 + j) k = I (h + 13 + j) k := fun k u1 u2 => by rw [← hK]; simp (disch := omega) only [jset_na, jset_nj]
          have r6 : K (h + 13 + j) 2 = I (h + 13 + j) 2 + 1 := by rw [← hK]; simp (disch := omega) only [jset_na, jset_nj, jset_eq]
          have r7 : K (h + 13 + j) 3 = I (h + 13 + j) 3 + 1 := by rw [← hK]; simp (disch := omega) only [jset_na, jset_nj, jset_eq]
          rw [r5 0 (by decide) (by decide), k0]
          have hy : fX2_settingAt K h 2 = J (o + 1) 9 := by
            rw [show fX2_settingAt K h 2 = K (h + 3) 2 from set_at (q := 2) (by decide), r1 _ (by omega) (by omega), hR.set 2 (by decide)]
          have hp2 := pay_c (h := h) (o := o) (K := K) (L := J) (q := q) (by omega) hy (fun j' hj' => by rw [r1 _ (by omega) (by omega)]; exact hR.acc j' hj')
          rw [hKp] at hp2
          generalize fX2_settingAt K h 2 = sy at hp2 hy
          have n2 : ∀ a, a ≠ h + 4 → fX2_ownerPays K h (nI q) sy a = K a := fun a ha => own_n (by omega) ha
          generalize fX2_ownerPays K h (nI q) sy = Ko at hp2 n2
          refine ⟨rfl, ⟨nb, ni, w, ?_⟩, fun a ha => (n2 a (by omega)).trans (r1 a (by omega) (by omega)), fun a ha => ?_⟩
          · refine hR.upG i j ⟨?_, ?_, ?_, ?_, ?_⟩ ⟨?_, ?_, ?_⟩ (fun b hb' => ?_) (fun b hb' => ?_) (fun a ha hne => ⟨?_, fun k hk => ?_⟩) (fun _ => ?_) (fun a ha hne => ⟨?_, fun k hk => ?_⟩) (fun _ => ?_) ⟨?_, ?_⟩
            · show Ko h 4 = _; rw [n2 h (by omega), r1 _ (by omega) (by omega)]
            · show Ko h 5 = _; rw [n2 h (by omega), r1 _ (by omega) (by omega)]
            · show Ko h 6 = _; rw [n2 h (by omega), r1 _ (by omega) (by omega)]
            · show Ko h 7 = _; rw [n2 h (by omega), r1 _ (by omega) (by omega)]; simp (disch := omega) only [jset_nj, jset_eq, p1]; exact f7
            · show Ko h 8 = _; rw [n2 h (by omega), r1 _ (by omega) (by omega)]; simp (disch := omega) only [jset_nj, jset_eq, p1]; exact f8
            · simp (disch := omega) only [jset_nj, jset_eq, p1]
            · simp (disch := omega) only [jset_nj, jset_eq, p1]
            · simp (disch := omega) only [jset_nj, jset_eq, p1]
            · show Ko (h + 3) b = _; rw [n2 _ (by omega), r1 _ (by omega) (by omega)]; simp (disch := omega) only [jset_nj, jset_eq, p1]; exact z2 b hb'
            · show Ko (h + 4) b = _; rw [hp2 b hb']; simp (disch := omega) only [jset_nj, jset_eq, p1]
            · show Ko (h + 5 + a) = _; rw [n2 _ (by omega), r1 _ (by omega) (by omega)]
            · simp (disch := omega) only [jset_nj, jset_eq, p1]
            · show bR w (Ko (h + 5 + i)) _ _
              rw [n2 _ (by omega)]
              unfold bR at hb ⊢
              simp (disch := omega) only [jset_nj, jset_eq, p1, r2, r3, r4]
              exact ⟨⟨g0, g1, g2, g3, g4, trivial⟩, Or.inl t3, Or.inr ⟨trivial, trivial⟩, hs, hB, hW, ⟨X, X1, X2⟩, Or.inr trivial⟩
            · show Ko (h + 13 + a) = _; rw [n2 _ (by omega), r1 _ (by omega) (by omega)]
            · simp (disch := omega) only [jset_nj, jset_eq, p1]
            · show iR (Ko (h + 13 + j)) _ _
              rw [n2 _ (by omega)]
              unfold iR at hn ⊢
              simp (disch := omega) only [jset_nj, jset_eq, p1, r5, r6, r7]
              exact ⟨⟨k0.trans hi0.symm, k1, by rw [k2], by rw [k3], k4⟩, by rw [hi0]; exact hits, M, D + 1, m1, by rw [m2, nI_1], by omega, m4⟩
            · refine Eq.trans ?_ (sm_add (g := fun k => J (o + 1) (111 + 5 * k + 3)) (j := j) (x := 1) ?_ hj (fun k hk => ?_)).symm
              · simp (disch := omega) only [jset_nj, jset_eq, p1]; rw [z6]
              · dsimp only; simp (disch := omega) only [jset_nj, jset_eq, p1]
              · dsimp only; simp (disch := omega) only [jset_nj, jset_eq, p1]
            · simp (disch := omega) only [jset_nj, jset_eq, p1]; exact z7
          · simp (disch := omega) only [jset_nf]; exact p2 a ha
        · rw [if_neg (fun u => c2 (hP0.mp u)), if_neg c2]
          rw [hlast _ (by simp (disch := omega) only [jset_nj, p1]; exact hR.ww) (by simp (disch := omega) only [jset_nj, p1])]
          unfold fX3_noteInspection fX0_takePaper
          rw [if_neg one0]
          generalize hQ : jset (jset (jset (jset I (h + 5 + i) 7 1) (h + 5 + i) 8 (nI q)) (h + 5 + i) 9 (nI P)) (h + 5 + i) 10 (nI L) = Q
          generalize hK : jset (jset (jset Q (h + 13 + j) 2 (Q (h + 13 + j) 2 + 1)) (h + 13 + j) 3 (jset Q (h + 13 + j) 2 (Q (h + 13 + j) 2 + 1) (h + 13 + j) 3 + 1)) (h + 13 + j) 4 (jset (jset Q (h + 13 + j) 2 (Q (h + 13 + j) 2 + 1)) (h + 13 + j) 3 (jset Q (h + 13 + j) 2 (Q (h + 13 + j) 2 + 1) (h + 13 + j) 3 + 1) (h + 13 + j) 4 + 1) = K
          have r1 : ∀ a, a ≠ h + 5 + i → a ≠ h + 13 + j → K a = I a := fun a u1 u2 => by rw [← hK, ← hQ]; exact (jset_nf u2).trans ((jset_nf u2).trans ((jset_nf u2).trans ((jset_nf u1).trans ((jset_nf u1).trans ((jset_nf u1).trans (jset_nf u1))))))
          have r2 : ∀ k, (k < 7 ∨ 10 < k) → K (h + 5 + i) k = I (h + 5 + i) k := fun k u1 => by rw [← hK, ← hQ]; simp (disch := omega) only [jset_na, jset_nj]
          have r3 : K (h + 5 + i) 7 = 1 ∧ K (h + 5 + i) 8 = nI q ∧ K (h + 5 + i) 9 = nI P ∧ K (h + 5 + i) 10 = nI L := by rw [← hK, ← hQ]; refine ⟨?_, ?_, ?_, ?_⟩ <;> simp (disch := omega) only [jset_na, jset_nj, jset_eq]
          have r5 : ∀ k, k ≠ 2 → k ≠ 3 → k ≠ 4 → K (h + 13 + j) k = I (h + 13 + j) k := fun k u1 u2 u3 => by rw [← hK, ← hQ]; simp (disch := omega) only [jset_na, jset_nj]
          have r6 : K (h + 13 + j) 2 = I (h + 13 + j) 2 + 1 ∧ K (h + 13 + j) 3 = I (h + 13 + j) 3 + 1 ∧ K (h + 13 + j) 4 = I (h + 13 + j) 4 + 1 := by rw [← hK, ← hQ]; refine ⟨?_, ?_, ?_⟩ <;> simp (disch := omega) only [jset_na, jset_nj, jset_eq]
          rw [r5 0 (by decide) (by decide) (by decide), k0]
          have hy : fX2_settingAt K h 2 = J (o + 1) 9 := by
            rw [show fX2_settingAt K h 2 = K (h + 3) 2 from set_at (q := 2) (by decide), r1 _ (by omega) (by omega), hR.set 2 (by decide)]
          have hp2 := pay_c (h := h) (o := o) (K := K) (L := J) (q := q) (by omega) hy (fun j' hj' => by rw [r1 _ (by omega) (by omega)]; exact hR.acc j' hj')
          rw [hKp] at hp2
          generalize fX2_settingAt K h 2 = sy at hp2 hy
          have n2 : ∀ a, a ≠ h + 4 → fX2_ownerPays K h (nI q) sy a = K a := fun a ha => own_n (by omega) ha
          generalize fX2_ownerPays K h (nI q) sy = Ko at hp2 n2
          refine ⟨rfl, ⟨nb, ni, w, ?_⟩, fun a ha => (n2 a (by omega)).trans (r1 a (by omega) (by omega)), fun a ha => ?_⟩
          · refine hR.upG i j ⟨?_, ?_, ?_, ?_, ?_⟩ ⟨?_, ?_, ?_⟩ (fun b hb' => ?_) (fun b hb' => ?_) (fun a ha hne => ⟨?_, fun k hk => ?_⟩) (fun _ => ?_) (fun a ha hne => ⟨?_, fun k hk => ?_⟩) (fun _ => ?_) ⟨?_, ?_⟩
            · show Ko h 4 = _; rw [n2 h (by omega), r1 _ (by omega) (by omega)]
            · show Ko h 5 = _; rw [n2 h (by omega), r1 _ (by omega) (by omega)]
            · show Ko h 6 = _; rw [n2 h (by omega), r1 _ (by omega) (by omega)]
            · show Ko h 7 = _; rw [n2 h (by omega), r1 _ (by omega) (by omega)]; simp (disch := omega) only [jset_nj, jset_eq, p1]; exact f7
            · show Ko h 8 = _; rw [n2 h (by omega), r1 _ (by omega) (by omega)]; simp (disch := omega) only [jset_nj, jset_eq, p1]; exact f8
            · simp (disch := omega) only [jset_nj, jset_eq, p1]
            · simp (disch := omega) only [jset_nj, jset_eq, p1]
            · simp (disch := omega) only [jset_nj, jset_eq, p1]
            · show Ko (h + 3) b = _; rw [n2 _ (by omega), r1 _ (by omega) (by omega)]; simp (disch := omega) only [jset_nj, jset_eq, p1]; exact z2 b hb'
            · show Ko (h + 4) b = _; rw [hp2 b hb']; simp (disch := omega) only [jset_nj, jset_eq, p1]
            · show Ko (h + 5 + a) = _; rw [n2 _ (by omega), r1 _ (by omega) (by omega)]
            · simp (disch := omega) only [jset_nj, jset_eq, p1]
            · show bR w (Ko (h + 5 + i)) _ _
              rw [n2 _ (by omega)]
              unfold bR at hb ⊢
              simp (disch := omega) only [jset_nj, jset_eq, p1, r2, r3.1, r3.2.1, r3.2.2.1, r3.2.2.2]
              exact ⟨⟨g0, g1, g2, g3, g4, g6⟩, Or.inl t3, Or.inl ⟨trivial, trivial, trivial, trivial, hits, L, rfl, by omega⟩, hs, hB, hW, ⟨X, X1, X2⟩, h6⟩
            · show Ko (h + 13 + a) = _; rw [n2 _ (by omega), r1 _ (by omega) (by omega)]
            · simp (disch := omega) only [jset_nj, jset_eq, p1]
            · show iR (Ko (h + 13 + j)) _ _
              rw [n2 _ (by omega)]
              unfold iR at hn ⊢
              simp (disch := omega) only [jset_nj, jset_eq, p1, r5, r6.1, r6.2.1, r6.2.2]
              exact ⟨⟨k0.trans hi0.symm, k1, by rw [k2], by rw [k3], by rw [k4]⟩, by rw [hi0]; exact hits, M, D + 1, m1, by rw [m2, nI_1], by omega, m4⟩
            · refine Eq.trans ?_ (sm_add (g := fun k => J (o + 1) (111 + 5 * k + 3)) (j := j) (x := 1) ?_ hj (fun k hk => ?_)).symm
              · simp (disch := omega) only [jset_nj, jset_eq, p1]; rw [z6]
              · dsimp only; simp (disch := omega) only [jset_nj, jset_eq, p1]
              · dsimp only; simp (disch := omega) only [jset_nj, jset_eq, p1]
            · refine Eq.trans ?_ (sm_add (g := fun k => J (o + 1) (111 + 5 * k + 4)) (j := j) (x := 1) ?_ hj (fun k hk => ?_)).symm
              · simp (disch := omega) only [jset_nj, jset_eq, p1]; rw [z7]
              · dsimp only; simp (disch := omega) only [jset_nj, jset_eq, p1]
              · dsimp only; simp (disch := omega) only [jset_nj, jset_eq, p1]
          · simp (disch := omega) only [jset_nf]; exact p2 a ha
      · rw [if_neg c1, if_neg (fun q => c1 ((whyI_r _).mp q))]
        exact OPC.err ⟨nb, ni, w, hR⟩
    · rw [e3, e4, if_pos rfl]
      exact OPC.err ⟨nb, ni, w, hR⟩
  · rw [e1, e2, if_pos rfl]
    rcases hR.ix y with ⟨j, hj, hj6, rfl, e3, e4⟩ | ⟨e3, e4⟩
    · rw [e3]; exact OPC.err ⟨nb, ni, w, hR⟩
    · rw [e3]; exact OPC.err ⟨nb, ni, w, hR⟩
end PG
