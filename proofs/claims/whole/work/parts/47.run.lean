/-! ORDERS ARE READ AND OBEYED, one after the other, on both sides -/
section PR
variable {l a : Nat} {A B : jI}
theorem r_ord (T : Tq l a A B) : cRd A (fX4_readOrder A 117).2 ∧ (fX4_readOrder A 117).2 117 2 = nI a ∧ bRd B (tRead B 120) ∧ (tRead B 120) 120 7 = nI a ∧ ∃ a', a ≤ a' ∧ Tq l a' (fX4_readOrder A 117).2 (tRead B 120) ∧ (((fX4_readOrder A 117).1 = 0 ∧ (tRead B 120) 120 10 = 0) ∨ ((fX4_readOrder A 117).1 = 1 ∧ (tRead B 120) 120 10 = 1 ∧ a < a' ∧ (fX4_readOrder A 117).2 117 4 = tSign B 120 ∧ isOrd (tSign B 120) ∧ (fX4_readOrder A 117).2 117 5 = (tRead B 120) 120 11 ∧ (tSign B 120 = 105 → (fX4_readOrder A 117).2 117 6 = (tRead B 120) 120 12))) := by
  have t3 : A 117 3 = nI a := T.1.2.2.1
  have t6 : B 120 6 = nI a := T.1.2.2.2
  have T1 : Tq l a (jset A 117 2 (A 117 3)) (jset B 120 7 (B 120 6)) := (T.setC (by decide)).setB (by decide)
  obtain ⟨es, hs⟩ := sgn T1
  have es2 : fX4_signHere (jset A 117 2 (A 117 3)) 117 = tSign B 120 := es
  have c1 : cRd A (jset A 117 2 (A 117 3)) := cRd.set (by decide)
  have b1 : bRd B (jset B 120 7 (B 120 6)) := bRd.set (by decide)
  have u2 : jset A 117 2 (A 117 3) 117 2 = nI a := by rw [jset_eq]; exact t3
  have u7 : jset B 120 7 (B 120 6) 120 7 = nI a := by rw [jset_eq]; exact t6
  rw [c_ord]
  unfold tRead tA
  generalize jset A 117 2 (A 117 3) = A1 at T1 es2 c1 u2 ⊢
  generalize eB1 : jset B 120 7 (B 120 6) = B1 at T1 hs b1 u7 ⊢
  have ht : tSign B 120 = fX7_here B1 120 := by unfold tSign; rw [eB1]
  rcases m_ord B1 (tSign B 120) with ⟨m1, m2⟩ | ⟨m1, m2⟩
  · rw [m1, c_kind (by rw [es2]; exact m2), es2]
    dsimp only
    rw [if_neg (show ¬ (1 : Int32) = 0 by decide)]
    have al : a < l := by
      rcases hs with ⟨-, h⟩ | ⟨h, -⟩
      · rw [ht, h] at m2
        exact absurd m2 (by unfold isOrd; decide)
      · exact h
    have eB2 : tB (jset B1 120 10 1) 120 = jset (jset B1 120 10 1) 120 6 ((jset B1 120 10 1) 120 6 + 1) := by
      unfold tB
      rw [jset_eq, if_neg (show ¬ (1 : Int32) = 0 by decide)]
    rw [eB2]
    have T2 : Tq l (a + 1) (jset (jset A1 117 4 (tSign B 120)) 117 3 (A1 117 3 + 1)) (jset (jset B1 120 10 1) 120 6 ((jset B1 120 10 1) 120 6 + 1)) := by
      have h := (Tq.setC (x := tSign B 120) (j := 4) (Tq.setB (x := 1) (j := 10) T1 (by decide)) (by decide)).go al
      rw [jset_nj (show (3 : Nat) ≠ 4 by decide)] at h
      exact h
    have f2 : (jset (jset B1 120 10 1) 120 6 ((jset B1 120 10 1) 120 6 + 1)) 120 10 = 1 := by rw [jset_nj (by decide), jset_eq]
    have k2 : (jset (jset A1 117 4 (tSign B 120)) 117 3 (A1 117 3 + 1)) 117 4 = tSign B 120 := by rw [jset_nj (by decide), jset_eq]
    have v2 : (jset (jset A1 117 4 (tSign B 120)) 117 3 (A1 117 3 + 1)) 117 2 = nI a := by rw [jset_nj (by decide), jset_nj (by decide)]; exact u2
    have v7 : (jset (jset B1 120 10 1) 120 6 ((jset B1 120 10 1) 120 6 + 1)) 120 7 = nI a := by rw [jset_nj (by decide), jset_nj (by decide)]; exact u7
    obtain ⟨r1, r2, r3, r4, a', r5, r6, r7⟩ := r_rest T2 f2 k2
    refine ⟨(c1.tr ((cRd.set (by decide)).tr (cRd.set (by decide)))).tr r1, r2.trans v2, (b1.tr ((bRd.set (by decide)).tr (bRd.set (by decide)))).tr r3, r4.trans v7, a', by omega, r6, ?_⟩
    rcases r7 with ⟨x1, x2⟩ | ⟨x1, x2, x3, x4, x5⟩
    · exact Or.inl ⟨x1, x2⟩
    · exact Or.inr ⟨x1, x2, by omega, x3, m2, x4, x5⟩
  · rw [m1, c_kind0 (by rw [es2]; exact m2)]
    dsimp only
    rw [if_pos rfl]
    have eB2 : tB (jset B1 120 10 0) 120 = jset B1 120 10 0 := by
      unfold tB
      rw [jset_eq, if_pos rfl, Int32.add_zero, jset_self rfl]
    have z0 : (jset B1 120 10 0) 120 10 = 0 := jset_eq
    rw [eB2]
    unfold tC
    rw [m_num0 z0]
    dsimp only
    have z1 : jset (jset B1 120 10 0) 120 11 0 120 10 = 0 := by rw [jset_nj (by decide)]; exact z0
    obtain ⟨n1, n2, n3, n4⟩ := m_rest (sg := tSign B 120) z1
    have T2 : Tq l a A1 (jset (jset B1 120 10 0) 120 11 0) := (T1.setB (by decide)).setB (by decide)
    exact ⟨c1, u2, (b1.tr ((bRd.set (by decide)).tr (bRd.set (by decide)))).tr n1, by rw [n4, jset_nj (by decide), jset_nj (by decide)]; exact u7, a, Nat.le_refl _, T2.b6 n1 n3, Or.inl ⟨rfl, n2⟩⟩
theorem o_obey (hR : R A 20 (B 121)) {s y z : Int32} (hs : isOrd s) (hy : y = B 120 11) (hz : s = 105 → z = B 120 12) : OPC A B 20 120 (fX2_obey A 20 s y z) (fX7_called B 120 s) := by
  subst hy
  rcases hs with rfl | rfl | rfl | rfl | rfl | rfl
  · have e1 : fX2_obey A 20 98 (B 120 11) z = fX2_addBoiler A 20 (B 120 11) := by
      unfold fX2_obey
      rw [if_pos rfl]
    have e2 : fX7_called B 120 98 = fX7_comes B 120 (B 120 11) := by
      unfold fX7_called
      rw [if_pos rfl]
    rw [e1, e2]
    exact o_boiler (o := 120) hR (B 120 11)
  · have e1 : fX2_obey A 20 105 (B 120 11) z = fX2_examine A 20 (B 120 11) z := by
      unfold fX2_obey
      rw [if_neg (by decide), if_neg (by decide), if_pos rfl]
    have e2 : fX7_called B 120 105 = fX7_inspects B 120 (B 120 11) (B 120 12) := by
      unfold fX7_called
      rw [if_neg (by decide), if_neg (by decide), if_pos rfl]
    rw [e1, e2, hz rfl]
    exact o_inspect (o := 120) hR (B 120 11) (B 120 12)
  · have e1 : fX2_obey A 20 102 (B 120 11) z = fX2_light A 20 (B 120 11) := by
      unfold fX2_obey
      rw [if_neg (by decide), if_pos rfl]
    have e2 : fX7_called B 120 102 = fX7_fires B 120 (B 120 11) := by
      unfold fX7_called
      rw [if_neg (by decide), if_pos rfl]
    rw [e1, e2]
    exact o_fire (o := 120) hR (B 120 11)
  · have e1 : fX2_obey A 20 111 (B 120 11) z = fX2_putOut A 20 (B 120 11) := by
      unfold fX2_obey
      rw [if_neg (by decide), if_neg (by decide), if_neg (by decide), if_pos rfl]
    have e2 : fX7_called B 120 111 = fX7_puts B 120 (B 120 11) := by
      unfold fX7_called
      rw [if_neg (by decide), if_neg (by decide), if_neg (by decide), if_pos rfl]
    rw [e1, e2]
    exact o_out (o := 120) hR (B 120 11)
  · have e1 : fX2_obey A 20 114 (B 120 11) z = fX2_sendToRepair A 20 (B 120 11) := by
      unfold fX2_obey
      rw [if_neg (by decide), if_neg (by decide), if_neg (by decide), if_neg (by decide), if_pos rfl]
    have e2 : fX7_called B 120 114 = fX7_sends B 120 (B 120 11) := by
      unfold fX7_called
      rw [if_neg (by decide), if_neg (by decide), if_neg (by decide), if_neg (by decide), if_pos rfl]
    rw [e1, e2]
    exact o_repair (o := 120) hR (B 120 11)
  · have e1 : fX2_obey A 20 119 (B 120 11) z = fX2_letWeeksPass A 20 (B 120 11) := by
      unfold fX2_obey
      rw [if_neg (by decide), if_neg (by decide), if_neg (by decide), if_neg (by decide), if_neg (by decide), if_pos rfl]
    have e2 : fX7_called B 120 119 = fX7_passes B 120 (B 120 11) := by
      unfold fX7_called
      rw [if_neg (by decide), if_neg (by decide), if_neg (by decide), if_neg (by decide), if_neg (by decide)]
    rw [e1, e2]
    exact o_pass (o := 120) hR (B 120 11)
end PR
def Fr (A B A0 B0 : jI) : Prop := (R A 20 (B 121) ∧ mR (B 121)) ∧ (∀ x, (x < 20 ∨ 39 ≤ x) → x ≠ 117 → x ≠ 119 → A x = A0 x) ∧ A 117 1 = A0 117 1 ∧ (∀ x, x ≠ 120 → x ≠ 121 → B x = B0 x) ∧ B 120 3 = B0 120 3 ∧ B 120 5 = B0 120 5
def Qr (l a : Nat) (A B A0 B0 : jI) : Prop := Tq l a A B ∧ A 119 2 = 0 ∧ A 119 0 = B 120 8 ∧ Fr A B A0 B0
def En (A : jI) (b : Int32) (B : jI) : Prop := (b = 1 ∧ A 119 2 = 0 ∧ A 119 0 = B 120 8) ∨ (b = 0 ∧ A 119 2 = 1 ∧ B 120 10 = 0 ∧ A 119 1 = B 120 7 ∧ A 119 3 = B 120 6 - B 120 7) ∨ (b = 0 ∧ A 119 2 = 2 ∧ B 120 10 = 1 ∧ A 119 1 = B 120 7 ∧ A 119 3 = B 120 9)
section PS
variable {l a n : Nat} {A B A0 B0 : jI}
/-- the text's end -/
theorem st_end (Q : Qr l a A B A0 B0) (e : a = l) : rehStep A 119 117 20 = A ∧ tAll 120 (n + 1) B = (1, B) := by
  obtain ⟨⟨⟨t1, t2, t3, t4⟩, t5, t6, t7⟩, q1, q2, q3⟩ := Q
  subst e
  constructor
  · unfold rehStep
    rw [if_pos q1, if_pos]
    unfold fX4_hasMore
    rw [t1, t3, if_pos (nI_le (Nat.le_refl _) (by omega))]
  · unfold tAll
    rw [if_pos (by rw [t2, t4]; exact nI_le (Nat.le_refl _) (by omega))]
set_option maxHeartbeats 1000000 in
/-- one order -/
theorem st_step (Q : Qr l a A B A0 B0) (hl : a < l) : (∃ a' B', a < a' ∧ Qr l a' (rehStep A 119 117 20) B' A0 B0 ∧ tAll 120 (n + 1) B = tAll 120 n B') ∨ (∃ b B', tAll 120 (n + 1) B = (b, B') ∧ En (rehStep A 119 117 20) b B' ∧ Fr (rehStep A 119 117 20) B' A0 B0 ∧ ¬ rehStep A 119 117 20 119 2 = 0) := by
  obtain ⟨T, q1, q2, ⟨f1, f2⟩, f3, f4, f5, f6, f7⟩ := Q
  obtain ⟨⟨t1, t2, t3, t4⟩, t5, t6, t7⟩ := id T
  obtain ⟨r1, r2, r3, r4, a', ra, T', hc⟩ := r_ord T
  have hm : ¬ fX4_hasMore A 117 = 0 := by
    unfold fX4_hasMore
    rw [t1, t3, if_neg (nI_ge (by omega) (by omega))]; decide
  have hb : ¬ B 120 5 ≤ B 120 6 := by rw [t2, t4]; exact nI_ge (by omega) (by omega)
  have eS : rehStep A 119 117 20 = if (fX4_readOrder A 117).1 = 0 then rehStop (fX4_readOrder A 117).2 119 117 else rehTake (fX4_readOrder A 117).2 119 117 20 := by
    unfold rehStep
    rw [if_pos q1, if_neg hm]
  have eM : tAll 120 (n + 1) B = if (tDone B 120) 120 10 = 0 then (0, tDone B 120) else if (-2000000001) < (tDone B 120) 120 9 then tAll 120 n (jset (tDone B 120) 120 8 ((tDone B 120) 120 8 + 1)) else (0, tDone B 120) := by
    show (if B 120 5 ≤ B 120 6 then _ else _) = _
    rw [if_neg hb]
  rw [eS, eM]
  unfold tDone
  have hbx : ∀ x, x ≠ 120 → tRead B 120 x = B x := r3.1
  have hax : ∀ x, x ≠ 117 → (fX4_readOrder A 117).2 x = A x := r1.1
  have R1 : R (fX4_readOrder A 117).2 20 (tRead B 120 121) := f1.cg (fun x g1 g2 => hax x (by omega)) (fun k _ => by rw [hbx 121 (by decide)])
  have M1 : mR (tRead B 120 121) := by rw [hbx 121 (by decide)]; exact f2
  have a119 : (fX4_readOrder A 117).2 119 = A 119 := hax 119 (by decide)
  generalize fX4_readOrder A 117 = p at *
  generalize tRead B 120 = q at *
  obtain ⟨pv, A1⟩ := p
  dsimp only at *
  rcases hc with ⟨h1, h2⟩ | ⟨h1, h2, h3, h4, h5, h6, h7⟩
  · refine Or.inr ⟨0, jset q 120 9 0, ?_, ?_⟩
    · have e : tF q 120 (tSign B 120) = jset q 120 9 0 := by unfold tF; rw [if_pos h2]
      rw [e, if_pos (by rw [jset_nj (by decide)]; exact h2)]
    · rw [if_pos h1]
      have s2 : rehStop A1 119 117 119 2 = 1 := by
        unfold rehStop fX5_stopAt
        rw [jset_nj (by decide), jset_eq]
      have s1 : rehStop A1 119 117 119 1 = nI a := by
        unfold rehStop fX5_stopAt
        rw [jset_nj (by decide), jset_nj (by decide), jset_eq]; exact r2
      have s3 : rehStop A1 119 117 119 3 = nI a' - nI a := by
        unfold rehStop fX5_stopAt
        rw [jset_eq]
        unfold fX4_brokeOffAt
        rw [r2, T'.1.2.2.1]
      have sx : ∀ x, x ≠ 119 → rehStop A1 119 117 x = A1 x := fun x hx => by
        unfold rehStop fX5_stopAt
        rw [jset_nf hx, jset_nf hx, jset_nf hx]
      refine ⟨Or.inr (Or.inl ⟨rfl, s2, by rw [jset_nj (by decide)]; exact h2, ?_, ?_⟩), ⟨⟨?_, ?_⟩, fun x g1 g2 g3 => ?_, ?_, fun x g1 g2 => ?_, ?_, ?_⟩, by rw [s2]; decide⟩
      · rw [s1, jset_nj (by decide), r4]
      · rw [s3, jset_nj (by decide), jset_nj (by decide), r4, T'.1.2.2.2]
      · exact R1.cg (fun x g1 g2 => sx x (by omega)) (fun k _ => by rw [jset_nf (by decide)])
      · rw [jset_nf (by decide)]; exact M1
      · rw [sx x g3, hax x g2, f3 x g1 g2 g3]
      · rw [sx 117 (by decide), r1.2, f4]
      · rw [jset_nf g1, hbx x g1, f5 x g1 g2]
      · rw [jset_nj (by decide), r3.2.1, f6]
      · rw [jset_nj (by decide), r3.2.2.1, f7]
  · obtain ⟨c1, c2, c3, c4⟩ := o_obey (s := tSign B 120) (y := A1 117 5) (z := A1 117 6) R1 h5 h6 h7
    have cM : mR ((fX7_called q 120 (tSign B 120)).2 121) := jMInv.called (I := q) (o := 120) M1
    have e : tF q 120 (tSign B 120) = jset (fX7_called q 120 (tSign B 120)).2 120 9 (fX7_called q 120 (tSign B 120)).1 := by unfold tF; rw [if_neg (by rw [h2]; decide)]
    rw [if_neg (by rw [h1]; decide), e]
    unfold rehTake
    rw [h4, r2]
    generalize fX2_obey A1 20 (tSign B 120) (A1 117 5) (A1 117 6) = u at *
    generalize fX7_called q 120 (tSign B 120) = v at *
    obtain ⟨u1, U⟩ := u
    obtain ⟨v1, V⟩ := v
    dsimp only at *
    subst c1
    have b120 : V 120 = q 120 := c4 120 (by decide)
    have g10 : jset V 120 9 u1 120 10 = 1 := by rw [jset_nj (by decide), b120]; exact h2
    have g9 : jset V 120 9 u1 120 9 = u1 := jset_eq
    rw [if_neg (by rw [g10]; decide), g9]
    have TU : Tq l a' U V := by
      obtain ⟨⟨x1, x2, x3, x4⟩, x5, x6, x7⟩ := T'
      refine ⟨⟨by rw [c3 117 (by omega)]; exact x1, by rw [b120]; exact x2, by rw [c3 117 (by omega)]; exact x3, by rw [b120]; exact x4⟩, x5, x6, fun k hk => ?_⟩
      rw [c3 118 (by omega), c4 124 (by decide)]
      exact x7 k hk
    have u119 : U 119 = A 119 := (c3 119 (by omega)).trans a119
    by_cases k : (-2000000001) < u1
    · rw [if_pos k]
      have eT : fX5_takeAnswer U 119 (nI a) u1 = jset U 119 0 (U 119 0 + 1) := by
        unfold fX5_takeAnswer fX6_isError
        rw [if_pos k, if_pos rfl]
      rw [eT]
      refine Or.inl ⟨a', _, h3, ⟨?_, ?_, ?_, ⟨?_, ?_⟩, fun x g1 g2 g3 => ?_, ?_, fun x g1 g2 => ?_, ?_, ?_⟩, rfl⟩
      · obtain ⟨⟨x1, x2, x3, x4⟩, x5, x6, x7⟩ := TU
        refine ⟨⟨by rw [jset_nf (by decide)]; exact x1, by rw [jset_nj (by decide), jset_nj (by decide)]; exact x2, by rw [jset_nf (by decide)]; exact x3, by rw [jset_nj (by decide), jset_nj (by decide)]; exact x4⟩, x5, x6, fun k hk => ?_⟩
        rw [jset_nf (by decide), jset_nf (by decide), jset_nf (by decide)]
        exact x7 k hk
      · rw [jset_nj (by decide), u119]; exact q1
      · rw [jset_eq, jset_eq, u119, q2, jset_nj (by decide), b120, r3.2.2.2]
      · exact c2.cg (fun x g1 g2 => jset_nf (by omega)) (fun k _ => by rw [jset_nf (by decide), jset_nf (by decide)])
      · rw [jset_nf (by decide), jset_nf (by decide)]; exact cM
      · rw [jset_nf g3, c3 x (by omega), hax x g2, f3 x g1 g2 g3]
      · rw [jset_nf (by decide), c3 117 (by omega), r1.2, f4]
      · rw [jset_nf g1, jset_nf g1, c4 x g2, hbx x g1, f5 x g1 g2]
      · rw [jset_nj (by decide), jset_nj (by decide), b120, r3.2.1, f6]
      · rw [jset_nj (by decide), jset_nj (by decide), b120, r3.2.2.1, f7]
    · rw [if_neg k]
      have eT : fX5_takeAnswer U 119 (nI a) u1 = fX5_stopAt U 119 (nI a) 2 u1 := by
        unfold fX5_takeAnswer fX6_isError
        rw [if_neg k, if_neg (by decide)]
      rw [eT]
      have s2 : fX5_stopAt U 119 (nI a) 2 u1 119 2 = 2 := by
        unfold fX5_stopAt
        rw [jset_nj (by decide), jset_eq]
      have s1 : fX5_stopAt U 119 (nI a) 2 u1 119 1 = nI a := by
        unfold fX5_stopAt
        rw [jset_nj (by decide), jset_nj (by decide), jset_eq]
      have s3 : fX5_stopAt U 119 (nI a) 2 u1 119 3 = u1 := by
        unfold fX5_stopAt
        rw [jset_eq]
      have sx : ∀ x, x ≠ 119 → fX5_stopAt U 119 (nI a) 2 u1 x = U x := fun x hx => by
        unfold fX5_stopAt
        rw [jset_nf hx, jset_nf hx, jset_nf hx]
      refine Or.inr ⟨0, _, rfl, Or.inr (Or.inr ⟨rfl, s2, g10, ?_, ?_⟩), ⟨⟨?_, ?_⟩, fun x g1 g2 g3 => ?_, ?_, fun x g1 g2 => ?_, ?_, ?_⟩, by rw [s2]; decide⟩
      · rw [s1, jset_nj (by decide), b120, r4]
      · rw [s3, g9]
      · exact c2.cg (fun x g1 g2 => sx x (by omega)) (fun k _ => by rw [jset_nf (by decide)])
      · rw [jset_nf (by decide)]; exact cM
      · rw [sx x g3, c3 x (by omega), hax x g2, f3 x g1 g2 g3]
      · rw [sx 117 (by decide), c3 117 (by omega), r1.2, f4]
      · rw [jset_nf g1, c4 x g2, hbx x g1, f5 x g1 g2]
      · rw [jset_nj (by decide), b120, r3.2.1, f6]
      · rw [jset_nj (by decide), b120, r3.2.2.1, f7]
end PS
