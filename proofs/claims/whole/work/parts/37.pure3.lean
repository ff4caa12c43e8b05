/-- an order on both sides: p of the class's House at h, q of the reference at o -/
def OPC (I J : jI) (h o : Nat) (p q : Int32 × jI) : Prop := p.1 = q.1 ∧ R p.2 h (q.2 (o + 1)) ∧ (∀ a, (a < h ∨ h + 19 ≤ a) → p.2 a = I a) ∧ (∀ a, a ≠ o + 1 → q.2 a = J a)
theorem OPC.err {I J : jI} {h o : Nat} {e : Int32} (hR : R I h (J (o + 1))) : OPC I J h o (e, I) (e, J) := ⟨rfl, hR, fun _ _ => rfl, fun _ _ => rfl⟩
section PG
variable {nb ni w : Nat} {I I' J J' : jI} {h o : Nat} {s s' : Nat → Int32}
theorem Rp.upG (hR : Rp nb ni w I h s) (i j : Nat)
    (hh : I' h 4 = I h 4 ∧ I' h 5 = I h 5 ∧ I' h 6 = I h 6 ∧ I' h 7 = s' 3 ∧ I' h 8 = s' 4) (ss : s' 0 = s 0 ∧ s' 1 = s 1 ∧ s' 2 = s 2)
    (hset : ∀ j, j < 4 → I' (h + 3) j = s' (7 + j)) (hacc : ∀ j, j < 4 → I' (h + 4) j = s' (11 + j))
    (hB : ∀ a, a < nb → a ≠ i → I' (h + 5 + a) = I (h + 5 + a) ∧ ∀ k, k < 12 → s' (15 + 12 * a + k) = s (15 + 12 * a + k))
    (hb : i < nb → bR w (I' (h + 5 + i)) s' (15 + 12 * i))
    (hN : ∀ a, a < ni → a ≠ j → I' (h + 13 + a) = I (h + 13 + a) ∧ ∀ k, k < 5 → s' (111 + 5 * a + k) = s (111 + 5 * a + k))
    (hn : j < ni → iR (I' (h + 13 + j)) s' (111 + 5 * j))
    (h5 : s' 5 = sm (fun j => s' (111 + 5 * j + 3)) ni ∧ s' 6 = sm (fun j => s' (111 + 5 * j + 4)) ni) : Rp nb ni w I' h s' := by
  obtain ⟨z0, ⟨e4, s0, e5, s1, e6, s2, e7, e8⟩, z2, z3, z4, z5, z6⟩ := hR
  refine ⟨z0, ⟨hh.1.trans e4, ss.1.trans s0, hh.2.1.trans e5, ss.2.1.trans s1, hh.2.2.1.trans e6, ss.2.2.trans s2, hh.2.2.2⟩, hset, hacc, fun a ha => ?_, fun a ha => ?_, h5⟩
  · by_cases e : a = i
    · subst e; exact hb ha
    · exact (z4 a ha).congr (hB a ha e).1 (hB a ha e).2
  · by_cases e : a = j
    · subst e; exact hn ha
    · exact (z5 a ha).congr (hN a ha e).1 (hN a ha e).2
/-- only one boiler's row has changed -/
theorem Rp.upB (hR : Rp nb ni w I h s) {i : Nat} (hi : i < nb) (hI : ∀ a, a ≠ h + 5 + i → I' a = I a) (hs : ∀ k, (k < 15 + 12 * i ∨ 15 + 12 * i + 12 ≤ k) → s' k = s k) (hb : bR w (I' (h + 5 + i)) s' (15 + 12 * i)) : Rp nb ni w I' h s' := by
  have h8 := hR.1
  obtain ⟨z0, ⟨e4, s0, e5, s1, e6, s2, e7, e8⟩, z2, z3, z4, z5, z6, z7⟩ := id hR
  refine hR.upG i 6 ⟨by rw [hI h (by omega)], by rw [hI h (by omega)], by rw [hI h (by omega)], by rw [hI h (by omega), hs 3 (by omega)]; exact e7, by rw [hI h (by omega), hs 4 (by omega)]; exact e8⟩ ⟨hs 0 (by omega), hs 1 (by omega), hs 2 (by omega)⟩
    (fun j hj => by rw [hI _ (by omega), hs _ (by omega)]; exact z2 j hj) (fun j hj => by rw [hI _ (by omega), hs _ (by omega)]; exact z3 j hj)
    (fun a ha hne => ⟨hI _ (by omega), fun k hk => hs _ (by omega)⟩) (fun _ => hb) (fun a ha hne => ⟨hI _ (by omega), fun k hk => hs _ (by omega)⟩) (fun q => absurd q (by omega)) ⟨?_, ?_⟩
  · rw [hs 5 (by omega), z6]; exact (sm_congr (fun k hk => hs _ (by omega))).symm
  · rw [hs 6 (by omega), z7]; exact (sm_congr (fun k hk => hs _ (by omega))).symm
theorem whyF0 {c : Nat} {x : Int32} (q : fX0_whyNotFiredIn I c x = 0) : ¬ I c 3 = 2 ∧ ¬ I c 3 = 1 ∧ ¬ I c 7 = 0 := by
  unfold fX0_whyNotFiredIn at q
  by_cases c1 : I c 3 = 2
  · rw [if_pos c1] at q; exact absurd q (by decide)
  · rw [if_neg c1] at q
    by_cases c2 : I c 3 = 1
    · rw [if_pos c2] at q; exact absurd q (by decide)
    · rw [if_neg c2] at q
      refine ⟨c1, c2, fun c3 => ?_⟩
      rw [if_pos c3] at q
      revert q
      repeat' split
      all_goals decide
theorem whyI0 {c m : Nat} (q : fX0_whyNotInspectedBy I c m = 0) : ¬ I c 3 = 2 ∧ ¬ I c 3 = 1 ∧ I c 6 = 0 ∧ (1 : Int32) ≤ fX3_left I m := by
  unfold fX0_whyNotInspectedBy at q
  by_cases c1 : I c 3 = 2
  · rw [if_pos c1] at q; exact absurd q (by decide)
  · rw [if_neg c1] at q
    by_cases c2 : I c 3 = 1
    · rw [if_pos c2] at q; exact absurd q (by decide)
    · rw [if_neg c2] at q
      by_cases c3 : I c 4 = 0
      · rw [if_pos c3] at q; exact absurd q (by decide)
      · rw [if_neg c3] at q
        by_cases c4 : I c 6 = 0
        · rw [if_pos c4] at q
          by_cases c5 : (1 : Int32) ≤ fX3_left I m
          · exact ⟨c1, c2, c4, c5⟩
          · rw [if_neg c5] at q; exact absurd q (by decide)
        · rw [if_neg c4] at q; exact absurd q (by decide)
theorem o_fire (hR : R I h (J (o + 1))) (x : Int32) : OPC I J h o (fX2_light I h x) (fX7_fires J o x) := by
  obtain ⟨nb, ni, w, hR⟩ := hR
  unfold fX2_light fX7_fires
  rcases hR.bx x with ⟨i, hi, hi8, rfl, e1, e2⟩ | ⟨e1, e2⟩
  · rw [e1, e2, if_neg one0]
    have hb := hR.b hi
    rw [p_whyF hb hi8 hR.ww]
    show OPC I J h o (if fX0_whyNotFiredIn I (h + 5 + i) (I h 6) = 0 then _ else _) _
    rw [hR.hw]
    by_cases c1 : fX0_whyNotFiredIn I (h + 5 + i) (nI w) = 0
    · rw [if_pos c1, if_pos ((whyF_r _).mpr c1), lays_3 hi8, of_11 hi8, lc_2]
      obtain ⟨d1, d2, d3⟩ := whyF0 c1
      obtain ⟨⟨g0, g1, g2, g3, g4, g6⟩, ht, hp, hs, hB⟩ := id hb
      have p7 : I (h + 5 + i) 7 = 1 := by
        rcases hp with ⟨u, -⟩ | ⟨u, -⟩
        · exact u
        · exact absurd u d3
      refine ⟨?_, ⟨nb, ni, w, hR.upB hi (fun a ha => jset_nf ha) (fun k hk => jset_nj (by omega)) ?_⟩, fun a ha => jset_nf (by omega), fun a ha => jset_nf ha⟩
      · show jset I (h + 5 + i) 3 1 (h + 5 + i) 10 - jset I (h + 5 + i) 3 1 h 6 + 1 = _
        rw [jset_nj (by omega), jset_na (by omega), jset_nj (by omega), jset_nj (by omega), hR.hw, hR.ww]
        rcases hp with ⟨-, -, -, u, -⟩ | ⟨u, -⟩
        · rw [u]
        · exact absurd u d3
      · unfold bR at hb ⊢
        simp (disch := omega) only [jset_eq, jset_nj]
        exact ⟨⟨g0, g1, g2, trivial, g4, g6⟩, Or.inr (Or.inl ⟨trivial, p7⟩), hp, hs, hB⟩
    · rw [if_neg c1, if_neg (fun q => c1 ((whyF_r _).mp q))]
      exact OPC.err ⟨nb, ni, w, hR⟩
  · rw [e1, e2, if_pos rfl]
    exact OPC.err ⟨nb, ni, w, hR⟩
theorem cools_eq {i : Nat} (hi : i < 8) : fX7_cools J o (nI i) = jset (jset J (o + 1) (15 + 12 * i + 3) 0) (o + 1) (15 + 12 * i + 4) 0 := by
  unfold fX7_cools
  rw [lays_3 hi, lays_4 hi]
theorem o_out (hR : R I h (J (o + 1))) (x : Int32) : OPC I J h o (fX2_putOut I h x) (fX7_puts J o x) := by
  obtain ⟨nb, ni, w, hR⟩ := hR
  unfold fX2_putOut fX7_puts
  rcases hR.bx x with ⟨i, hi, hi8, rfl, e1, e2⟩ | ⟨e1, e2⟩
  · rw [e1, e2, if_neg one0]
    have hb := hR.b hi
    rw [of_3 hi8]
    obtain ⟨⟨g0, g1, g2, g3, g4, g6⟩, ht, hp, hs, hB⟩ := id hb
    show OPC I J h o (if I (h + 5 + i) 3 = 1 then _ else _) _
    rw [g3]
    by_cases c1 : J (o + 1) (15 + 12 * i + 3) = 1
    · rw [if_pos c1, if_pos c1, cools_eq hi8, of_2 hi8]
      unfold fX0_becomeCold
      refine ⟨?_, ⟨nb, ni, w, hR.upB hi (fun a ha => (jset_nf ha).trans (jset_nf ha)) (fun k hk => (jset_nj (by omega)).trans (jset_nj (by omega))) ?_⟩, fun a ha => (jset_nf (by omega)).trans (jset_nf (by omega)), fun a ha => (jset_nf ha).trans (jset_nf ha)⟩
      · simp (disch := omega) only [jset_nj]
        exact g2
      · unfold bR at hb ⊢
        simp (disch := omega) only [jset_eq, jset_nj]
        exact ⟨⟨g0, g1, g2, trivial, trivial, g6⟩, Or.inl trivial, hp, hs, hB⟩
    · rw [if_neg c1, if_neg c1]
      exact OPC.err ⟨nb, ni, w, hR⟩
  · rw [e1, e2, if_pos rfl]
    exact OPC.err ⟨nb, ni, w, hR⟩
theorem own_eq {K : jI} {q : Nat} (hq : q < 4) {y : Int32} : fX2_ownerPays K h (nI q) y = jset (jset K (h + 4) 3 (K (h + 4) 3 - y)) (h + 4) q ((jset K (h + 4) 3 (K (h + 4) 3 - y)) (h + 4) q + y) := by
  unfold fX2_ownerPays
  rw [if_neg (nI_pos (by omega)), if_neg (show ¬ (4 : Int32) ≤ nI q from nI_ge (a := q) (b := 4) hq (by decide)), nI_clamp (by omega), lc_3]
theorem pays_eq {K : jI} {q : Nat} (hq : q < 4) {y : Int32} : fX7_pays K o (nI q) y = jset (jset K (o + 1) 14 (K (o + 1) 14 - y)) (o + 1) (11 + q) ((jset K (o + 1) 14 (K (o + 1) 14 - y)) (o + 1) (11 + q) + y) := by
  unfold fX7_pays
  rw [lc_14, show (11 : Int32) + nI q = nI (11 + q) from nI_add 11 q, nI_clamp (by omega)]
theorem own_n {K : jI} {q : Nat} (hq : q < 4) {y : Int32} {a : Nat} (ha : a ≠ h + 4) : fX2_ownerPays K h (nI q) y a = K a := by
  rw [own_eq hq]; exact (jset_nf ha).trans (jset_nf ha)
theorem pays_n {K : jI} {q : Nat} (hq : q < 4) {y : Int32} {k : Nat} (hk : k < 11 ∨ 15 ≤ k) : fX7_pays K o (nI q) y (o + 1) k = K (o + 1) k := by
  rw [pays_eq hq]; exact (jset_nj (by omega)).trans (jset_nj (by omega))
theorem pays_a {K : jI} {q : Nat} (hq : q < 4) {y : Int32} {a : Nat} (ha : a ≠ o + 1) : fX7_pays K o (nI q) y a = K a := by
  rw [pays_eq hq]; exact (jset_nf ha).trans (jset_nf ha)
theorem pay_c {K L : jI} {q : Nat} (hq : q < 4) {y y' : Int32} (hy : y = y') (hacc : ∀ j, j < 4 → K (h + 4) j = L (o + 1) (11 + j)) : ∀ j, j < 4 → fX2_ownerPays K h (nI q) y (h + 4) j = fX7_pays L o (nI q) y' (o + 1) (11 + j) := by
  intro j hj
  subst hy
  rw [own_eq hq, pays_eq hq]
  have e3 := hacc 3 (by decide)
  have eq := hacc q hq
  have ej := hacc j hj
  by_cases c1 : j = q
  · subst c1
    rw [jset_eq, jset_eq]
    by_cases c2 : j = 3
    · subst c2
      rw [jset_eq, show 11 + 3 = 14 from rfl, jset_eq, e3]
    · rw [jset_nj c2, jset_nj (k := 11 + j) (j := 14) (by omega), ej]
  · rw [jset_nj c1, jset_nj (k := 11 + j) (j := 11 + q) (by omega)]
    by_cases c2 : j = 3
    · subst c2
      rw [jset_eq, show 11 + 3 = 14 from rfl, jset_eq, e3]
    · rw [jset_nj c2, jset_nj (k := 11 + j) (j := 14) (by omega), ej]
theorem set_at {K : jI} {q : Nat} (hq : q < 4) : fX2_settingAt K h (nI q) = K (h + 3) q := by
  unfold fX2_settingAt
  rw [if_neg (nI_pos (by omega)), if_neg (show ¬ (4 : Int32) ≤ nI q from nI_ge (a := q) (b := 4) hq (by decide)), nI_clamp (by omega)]
theorem o_repair (hR : R I h (J (o + 1))) (x : Int32) : OPC I J h o (fX2_sendToRepair I h x) (fX7_sends J o x) := by
  obtain ⟨nb, ni, w, hR⟩ := hR
  unfold fX2_sendToRepair fX7_sends
  rcases hR.bx x with ⟨i, hi, hi8, rfl, e1, e2⟩ | ⟨e1, e2⟩
  · rw [e1, e2, if_neg one0]
    have hb := hR.b hi
    have h8 := hR.1
    rw [of_3 hi8, of_2 hi8]
    obtain ⟨⟨g0, g1, g2, g3, g4, g6⟩, ht, hp, hs, hB, hW, ⟨X, X1, X2⟩, h6⟩ := id hb
    show OPC I J h o (if I (h + 5 + i) 3 = 0 then _ else _) _
    rw [g3]
    by_cases c1 : J (o + 1) (15 + 12 * i + 3) = 0
    · rw [if_pos c1, if_pos c1]
      have ew : J (o + 1) (15 + 12 * i + 2) / 10 + 1 = nI (X / 10 + 1) := by
        rw [X2, show (10 : Int32) = nI 10 from rfl, pk_div (by omega) (by decide) (by decide), nI_1]
      show OPC I J h o (I (h + 5 + i) 2 / 10 + 1, _) _
      rw [g2, ew, lays_3 hi8, lays_5 hi8, lc_4, lc_2, lc_10]
      generalize hK : jset (jset (jset I (h + 5 + i) 3 2) (h + 5 + i) 5 ((jset I (h + 5 + i) 3 2) h 6 + nI (X / 10 + 1))) h 8 ((jset (jset I (h + 5 + i) 3 2) (h + 5 + i) 5 ((jset I (h + 5 + i) 3 2) h 6 + nI (X / 10 + 1))) h 8 + nI (X / 10 + 1)) = K
      have k1 : ∀ a, a ≠ h → a ≠ h + 5 + i → K a = I a := fun a h1 h2 => by rw [← hK]; exact (jset_nf h1).trans ((jset_nf h2).trans (jset_nf h2))
      have k2 : ∀ k, k ≠ 8 → K h k = I h k := fun k h1 => by rw [← hK]; exact (jset_nj h1).trans ((jset_na (by omega)).trans (jset_na (by omega)))
      have k3 : K h 8 = I h 8 + nI (X / 10 + 1) := by
        rw [← hK]; simp (disch := omega) only [jset_eq, jset_na]
      have k4 : K (h + 5 + i) 5 = nI (w + (X / 10 + 1)) := by
        rw [← hK]; simp (disch := omega) only [jset_eq, jset_na]
        rw [hR.hw, nI_add]
      have k5 : K (h + 5 + i) 3 = 2 := by
        rw [← hK]; simp (disch := omega) only [jset_eq, jset_na, jset_nj]
      have k6 : ∀ k, k ≠ 3 → k ≠ 5 → K (h + 5 + i) k = I (h + 5 + i) k := fun k h1 h2 => by
        rw [← hK]; simp (disch := omega) only [jset_na, jset_nj]
      have hy : nI (X / 10 + 1) * fX2_settingAt K h 3 = J (o + 1) 10 * nI (X / 10 + 1) := by
        rw [show fX2_settingAt K h 3 = K (h + 3) 3 from set_at (q := 3) (by decide), k1 _ (by omega) (by omega), hR.set 3 (by decide), Int32.mul_comm]
      have hp2 := pay_c (h := h) (o := o) (K := K) (L := J) (q := 2) (by decide) hy (fun j hj => by rw [k1 _ (by omega) (by omega)]; exact hR.acc j hj)
      generalize hy2 : nI (X / 10 + 1) * fX2_settingAt K h 3 = y at hp2 hy
      rw [← hy]
      rw [← hy] at hp2
      have n2 : ∀ a, a ≠ h + 4 → fX2_ownerPays K h 2 y a = K a := fun a ha => own_n (q := 2) (by decide) ha
      have m2 : ∀ k, (k < 11 ∨ 15 ≤ k) → fX7_pays J o 2 y (o + 1) k = J (o + 1) k := fun k hk => pays_n (q := 2) (by decide) hk
      have m3 : ∀ a, a ≠ o + 1 → fX7_pays J o 2 y a = J a := fun a ha => pays_a (q := 2) (by decide) ha
      have hp2 : ∀ j, j < 4 → fX2_ownerPays K h 2 y (h + 4) j = fX7_pays J o 2 y (o + 1) (11 + j) := hp2
      obtain ⟨z0, ⟨f4, s0, f5, s1, f6, s2, f7, f8⟩, z2, z3, z4, z5, z6, z7⟩ := id hR
      refine ⟨rfl, ⟨nb, ni, w, ?_⟩, fun a ha => (n2 a (by omega)).trans (k1 a (by omega) (by omega)), fun a ha => ?_⟩
      · refine hR.upG i 6 ⟨?_, ?_, ?_, ?_, ?_⟩ ⟨?_, ?_, ?_⟩ (fun j hj => ?_) (fun j hj => ?_) (fun a ha hne => ⟨?_, fun k hk => ?_⟩) (fun _ => ?_) (fun a ha hne => ⟨?_, fun k hk => ?_⟩) (fun q => absurd q (by omega)) ⟨?_, ?_⟩
        · show fX2_ownerPays K h 2 y h 4 = _; rw [n2 h (by omega), k2 _ (by omega)]
        · show fX2_ownerPays K h 2 y h 5 = _; rw [n2 h (by omega), k2 _ (by omega)]
        · show fX2_ownerPays K h 2 y h 6 = _; rw [n2 h (by omega), k2 _ (by omega)]
        · show fX2_ownerPays K h 2 y h 7 = _; rw [n2 h (by omega), k2 _ (by omega)]; simp (disch := omega) only [jset_nj, m2]; exact f7
        · show fX2_ownerPays K h 2 y h 8 = _; rw [n2 h (by omega), k3]; simp (disch := omega) only [jset_nj, jset_eq, m2]; rw [f8]
        · simp (disch := omega) only [jset_nj, m2]
        · simp (disch := omega) only [jset_nj, m2]
        · simp (disch := omega) only [jset_nj, m2]
        · show fX2_ownerPays K h 2 y (h + 3) j = _; rw [n2 _ (by omega), k1 _ (by omega) (by omega)]; simp (disch := omega) only [jset_nj, m2]; exact z2 j hj
        · show fX2_ownerPays K h 2 y (h + 4) j = _; rw [hp2 j hj]; simp (disch := omega) only [jset_nj]
        · show fX2_ownerPays K h 2 y (h + 5 + a) = _; rw [n2 _ (by omega), k1 _ (by omega) (by omega)]
        · simp (disch := omega) only [jset_nj, m2]
        · show bR w (fX2_ownerPays K h 2 y (h + 5 + i)) _ _
          rw [n2 _ (by omega)]
          unfold bR at hb ⊢
          simp (disch := omega) only [jset_nj, jset_eq, m2, k4, k5, k6]
          refine ⟨⟨g0, g1, g2, trivial, g4, g6⟩, Or.inr (Or.inr ⟨trivial, ?_, w + (X / 10 + 1), ?_, by omega, by omega⟩), hp, hs, hB, hW, ⟨X, X1, X2⟩, h6⟩
          · rw [hR.ww, nI_add]
          · rw [hR.ww, nI_add]
        · show fX2_ownerPays K h 2 y (h + 13 + a) = _; rw [n2 _ (by omega), k1 _ (by omega) (by omega)]
        · simp (disch := omega) only [jset_nj, m2]
        · simp (disch := omega) only [jset_nj, m2]; exact z6
        · simp (disch := omega) only [jset_nj, m2]; exact z7
      · show jset (jset (jset (fX7_pays J o 2 y) _ _ _) _ _ _) _ _ _ a = _
        rw [jset_nf ha, jset_nf ha, jset_nf ha, m3 a ha]
    · rw [if_neg c1, if_neg c1]
      exact OPC.err ⟨nb, ni, w, hR⟩
  · rw [e1, e2, if_pos rfl]
    exact OPC.err ⟨nb, ni, w, hR⟩
end PG
