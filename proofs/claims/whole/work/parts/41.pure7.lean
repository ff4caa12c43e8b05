/-! THE WEEK, on both sides -/
theorem row_set {I K : jI} {c j : Nat} {x : Int32} (h : K c = I c) : jset K c j x c = jset I c j x c := by
  funext k
  by_cases hk : k = j
  · subst hk; rw [jset_eq, jset_eq]
  · rw [jset_nj hk, jset_nj hk, h]
theorem age_row {I K : jI} {c : Nat} (h : K c = I c) : fX0_age K c c = fX0_age I c c := by
  unfold fX0_age
  rw [h]
  by_cases c1 : I c 3 = 1
  · simp only [if_pos c1]; exact row_set h
  · simp only [if_neg c1]
    by_cases c2 : I c 3 = 0
    · simp only [if_pos c2]; exact row_set h
    · simp only [if_neg c2]; exact h
section PX
variable {nb ni w : Nat} {I J : jI} {h o : Nat}
theorem w_grow (hR : Rp nb ni w I h (J (o + 1))) : ∀ k, k ≤ nb → (∀ i, i < k → bR w (fX0_age I (h + 5 + i) (h + 5 + i)) (mGrow J o k (o + 1)) (15 + 12 * i)) ∧ (∀ a, a ≠ o + 1 → mGrow J o k a = J a) ∧ ∀ q, (q < 15 ∨ 15 + 12 * k ≤ q) → mGrow J o k (o + 1) q = J (o + 1) q
  | 0, _ => ⟨fun i hi => absurd hi (by omega), fun _ _ => rfl, fun _ _ => rfl⟩
  | k + 1, hk => by
    have h8 : nb ≤ 8 := hR.1.1
    obtain ⟨a1, a2, a3⟩ := w_grow hR k (by omega)
    have b0 : bR w (I (h + 5 + k)) (mGrow J o k (o + 1)) (15 + 12 * k) := (hR.b (i := k) (by omega)).congr rfl (fun q hq => a3 _ (Or.inr (by omega)))
    obtain ⟨g1, g2, g3⟩ := w_age b0 (by omega)
    refine ⟨fun i hi => ?_, fun a ha => (g2 a ha).trans (a2 a ha), fun q hq => (g3 q (by omega)).trans (a3 q (by omega))⟩
    by_cases e : i = k
    · subst e; exact g1
    · exact (a1 i (by omega)).congr rfl (fun q hq => g3 _ (Or.inl (by omega)))
theorem mInsp_at {K : jI} : ∀ k, (∀ a, a ≠ o + 1 → mInsp K o k a = K a) ∧ (∀ n, n < k → mInsp K o k (o + 1) (111 + 5 * n + 2) = 0) ∧ ∀ q, (∀ n, n < k → q ≠ 111 + 5 * n + 2) → mInsp K o k (o + 1) q = K (o + 1) q
  | 0 => ⟨fun _ _ => rfl, fun n hn => absurd hn (by omega), fun _ _ => rfl⟩
  | k + 1 => by
    obtain ⟨a1, a2, a3⟩ := mInsp_at (K := K) k
    refine ⟨fun a ha => (jset_nf ha).trans (a1 a ha), fun n hn => ?_, fun q hq => (jset_nj (hq k (by omega))).trans (a3 q (fun n hn => hq n (by omega)))⟩
    by_cases e : n = k
    · subst e; exact jset_eq
    · exact (jset_nj (by omega)).trans (a2 n (by omega))
theorem cWI_at {K : jI} : ∀ k, (∀ a, (a < h + 13 ∨ h + 13 + k ≤ a) → cWI K h k a = K a) ∧ ∀ n, n < k → cWI K h k (h + 13 + n) = jset K (h + 13 + n) 2 0 (h + 13 + n)
  | 0 => ⟨fun _ _ => rfl, fun n hn => absurd hn (by omega)⟩
  | k + 1 => by
    obtain ⟨a1, a2⟩ := cWI_at (K := K) k
    refine ⟨fun a ha => (oX3_beginWeek (by omega)).trans (a1 a (by omega)), fun n hn => ?_⟩
    by_cases e : n = k
    · subst e
      show jset (cWI K h n) (h + 13 + n) 2 0 (h + 13 + n) = _
      exact row_set (a1 _ (Or.inr (by omega)))
    · exact (oX3_beginWeek (by omega)).trans (a2 n (by omega))
theorem cD1_n {K : jI} {c a : Nat} {x : Int32} (ha : a ≠ c) : cD1 K c x a = K a := by
  unfold cD1
  split
  · rfl
  · split
    · rfl
    · exact jset_nf ha
theorem cD2_n {K : jI} {c a : Nat} {x : Int32} (ha : a ≠ c) : cD2 K c x a = K a := by
  unfold cD2
  split
  · rfl
  · split
    · rfl
    · exact jset_nf ha
theorem cOut_n {K : jI} {c a : Nat} {n x : Int32} (ha : a ≠ c) : (cOut K n c x).2 a = K a := by
  unfold cOut
  split
  · rfl
  · exact oX0_becomeCold ha
theorem cWb_eq {K : jI} {c : Nat} {n x : Int32} (hc : h ≠ c) (hx : K h 6 = x) : cWb K h n c = cOut (cD2 (cD1 (fX0_endRepairIn (fX0_age K c) c x) c x) c x) n c x := by
  have h1 : cW1 K h c h 6 = x := by
    show fX0_age K c h 6 = x
    rw [oX0_age hc, hx]
  have e2 : cW2 K h c = fX0_endRepairIn (fX0_age K c) c x := by
    unfold cW2
    rw [h1]; rfl
  have h2 : cW2 K h c h 6 = x := by rw [e2, oX0_endRepairIn hc, oX0_age hc, hx]
  have e3 : cW3 K h c = cD2 (cD1 (fX0_endRepairIn (fX0_age K c) c x) c x) c x := by
    unfold cW3
    rw [h2, e2, drop_eq]
  have h3 : cW3 K h c h 6 = x := by rw [e3, cD2_n hc, cD1_n hc, oX0_endRepairIn hc, oX0_age hc, hx]
  unfold cWb
  rw [h3, e3]
  rfl
theorem cWb_m {K : jI} {c a : Nat} {n x : Int32} (hc : h ≠ c) (hx : K h 6 = x) (ha : a ≠ c) : (cWb K h n c).2 a = K a := by
  rw [cWb_eq hc hx, cOut_n ha, cD2_n ha, cD1_n ha, oX0_endRepairIn ha, oX0_age ha]
theorem w_loop (h8 : nb ≤ 8) (hw : w < 9999) (hI : I h 6 = nI (w + 1)) (hJ : J (o + 1) 2 = nI (w + 1)) (hb : ∀ i, i < nb → bR w (fX0_age I (h + 5 + i) (h + 5 + i)) (J (o + 1)) (15 + 12 * i)) : ∀ k, k ≤ nb → (cWN I h k).1 = (mWbN J o k).1 ∧ (∀ i, i < k → bR (w + 1) ((cWN I h k).2 (h + 5 + i)) ((mWbN J o k).2 (o + 1)) (15 + 12 * i)) ∧ (∀ a, (a < h + 5 ∨ h + 5 + k ≤ a) → (cWN I h k).2 a = I a) ∧ (∀ a, a ≠ o + 1 → (mWbN J o k).2 a = J a) ∧ ∀ q, (q < 15 ∨ 15 + 12 * k ≤ q) → (mWbN J o k).2 (o + 1) q = J (o + 1) q
  | 0, _ => ⟨rfl, fun i hi => absurd hi (by omega), fun _ _ => rfl, fun _ _ => rfl, fun _ _ => rfl⟩
  | k + 1, hk => by
    obtain ⟨a0, a1, a2, a3, a4⟩ := w_loop h8 hw hI hJ hb k (by omega)
    have hc : h ≠ h + 5 + k := by omega
    have hx : (cWN I h k).2 h 6 = nI (w + 1) := by rw [a2 h (by omega)]; exact hI
    have hy : (mWbN J o k).2 (o + 1) 2 = nI (w + 1) := (a4 2 (by omega)).trans hJ
    have hrow : (cWN I h k).2 (h + 5 + k) = I (h + 5 + k) := a2 _ (Or.inr (by omega))
    have b0 : bR w (fX0_age (cWN I h k).2 (h + 5 + k) (h + 5 + k)) ((mWbN J o k).2 (o + 1)) (15 + 12 * k) := (hb k (by omega)).congr (age_row hrow) (fun q hq => a4 _ (Or.inr (by omega)))
    obtain ⟨b1, m1⟩ := w_end (I := fX0_age (cWN I h k).2 (h + 5 + k)) b0 (by omega) hw hy
    have y1 := (m1.2 2 (by omega)).trans hy
    obtain ⟨b2, m2⟩ := w_d1 (I := fX0_endRepairIn (fX0_age (cWN I h k).2 (h + 5 + k)) (h + 5 + k) (nI (w + 1))) b1 (by omega) y1
    have y2 := (m2.2 2 (by omega)).trans y1
    obtain ⟨b3, m3⟩ := w_d2 (I := cD1 (fX0_endRepairIn (fX0_age (cWN I h k).2 (h + 5 + k)) (h + 5 + k) (nI (w + 1))) (h + 5 + k) (nI (w + 1))) b2 (by omega) y2
    have y3 := (m3.2 2 (by omega)).trans y2
    obtain ⟨e4, b4, m4⟩ := w_out (I := cD2 (cD1 (fX0_endRepairIn (fX0_age (cWN I h k).2 (h + 5 + k)) (h + 5 + k) (nI (w + 1))) (h + 5 + k) (nI (w + 1))) (h + 5 + k) (nI (w + 1))) (cWN I h k).1 b3 (by omega) y3
    have mm := m1.tr (m2.tr (m3.tr m4))
    have ec : cWN I h (k + 1) = cOut (cD2 (cD1 (fX0_endRepairIn (fX0_age (cWN I h k).2 (h + 5 + k)) (h + 5 + k) (nI (w + 1))) (h + 5 + k) (nI (w + 1))) (h + 5 + k) (nI (w + 1))) (cWN I h k).1 (h + 5 + k) (nI (w + 1)) := cWb_eq hc hx
    have em : mWbN J o (k + 1) = mOut (mDrop2 (mDrop1 (fX7_repairs (mWbN J o k).2 o (nI k)) o (nI k)) o (nI k)) o (cWN I h k).1 (nI k) := by
      show mWb (mWbN J o k).2 o (mWbN J o k).1 (nI k) = _
      rw [← a0]; rfl
    have en : ∀ a, a ≠ h + 5 + k → (cWN I h (k + 1)).2 a = (cWN I h k).2 a := fun a ha => cWb_m hc hx ha
    rw [← em] at e4 b4 mm
    rw [← ec] at e4 b4
    refine ⟨e4, fun i hi => ?_, fun a ha => (en a (by omega)).trans (a2 a (by omega)), fun a ha => (mm.1 a ha).trans (a3 a ha), fun q hq => (mm.2 q (by omega)).trans (a4 q (by omega))⟩
    by_cases e : i = k
    · subst e; exact b4
    · exact (a1 i (by omega)).congr (en _ (by omega)) (fun q hq => mm.2 _ (Or.inl (by omega)))
end PX
section PY
variable {nb ni w : Nat} {K J : jI} {h o : Nat} {v : Int32}
theorem w_week (hR : Rp nb ni w (jset K h 7 v) h (J (o + 1))) (hw : w < 9999) : (fX2_letOneWeekPass K h).1 = (fX7_week J o).1 ∧ Rp nb ni (w + 1) (jset (fX2_letOneWeekPass K h).2 h 7 (v + (fX2_letOneWeekPass K h).1)) h ((fX7_week J o).2 (o + 1)) ∧ (∀ a, (a < h ∨ h + 19 ≤ a) → (fX2_letOneWeekPass K h).2 a = K a) ∧ (∀ a, a ≠ o + 1 → (fX7_week J o).2 a = J a) ∧ (fX2_letOneWeekPass K h).2 h 7 = K h 7 := by
  obtain ⟨⟨h8, h6, h9⟩, ⟨k4, s0, k5, s1, k6, s2, k7, k8⟩, hset, hacc, hbs, his, hs5, hs6⟩ := id hR
  rw [jset_nj (by decide)] at k4 k5 k6 k8
  rw [jset_eq] at k7
  have en : (K h 4).toNatClampNeg = nb := by rw [k4]; exact nI_clamp (by omega)
  have ei : (K h 5).toNatClampNeg = ni := by rw [k5]; exact nI_clamp (by omega)
  have mn : mCnt J o 0 = nb := by unfold mCnt; rw [s0]; exact nI_clamp (by omega)
  have mi : mCnt J o 1 = ni := by unfold mCnt; rw [s1]; exact nI_clamp (by omega)
  obtain ⟨g1, g2, g3⟩ := w_grow hR nb (Nat.le_refl _)
  have hL : ∀ q, q ≠ 2 → mNext (mGrow J o nb) o (o + 1) q = mGrow J o nb (o + 1) q := fun q hq => jset_nj (by rw [lc_2]; exact hq)
  have hL2 : mNext (mGrow J o nb) o (o + 1) 2 = nI (w + 1) := by
    unfold mNext
    rw [lc_2, jset_eq, g3 2 (by omega), s2, nI_1]
  have hLa : ∀ a, a ≠ o + 1 → mNext (mGrow J o nb) o a = J a := fun a ha => (jset_nf ha).trans (g2 a ha)
  obtain ⟨i1, i2, i3⟩ := mInsp_at (K := mNext (mGrow J o nb) o) (o := o) ni
  obtain ⟨c1, c2⟩ := cWI_at (K := jset K h 6 (K h 6 + 1)) (h := h) ni
  have hI : cWI (jset K h 6 (K h 6 + 1)) h ni h 6 = nI (w + 1) := by rw [c1 h (by omega), jset_eq, k6, nI_1]
  have hJ : mInsp (mNext (mGrow J o nb) o) o ni (o + 1) 2 = nI (w + 1) := by rw [i3 2 (by intro n hn; omega)]; exact hL2
  have hb : ∀ i, i < nb → bR w (fX0_age (cWI (jset K h 6 (K h 6 + 1)) h ni) (h + 5 + i) (h + 5 + i)) (mInsp (mNext (mGrow J o nb) o) o ni (o + 1)) (15 + 12 * i) := fun i hi => (g1 i hi).congr (age_row (by rw [c1 _ (by omega), jset_nf (by omega), jset_nf (by omega)])) (fun q hq => by rw [i3 _ (by intro n hn; omega), hL _ (by omega)])
  obtain ⟨l0, l1, l2, l3, l4⟩ := w_loop h8 hw hI hJ hb nb (Nat.le_refl _)
  have ep : fX2_letOneWeekPass K h = cWN (cWI (jset K h 6 (K h 6 + 1)) h ni) h nb := by unfold fX2_letOneWeekPass; rw [en, ei]
  have eq1 : (fX7_week J o).1 = (mWbN (mInsp (mNext (mGrow J o nb) o) o ni) o nb).1 := by
    simp only [fX7_week]; rw [mn, mi]
  have eq2 : (fX7_week J o).2 = jset (mWbN (mInsp (mNext (mGrow J o nb) o) o ni) o nb).2 (o + 1) 3 ((mWbN (mInsp (mNext (mGrow J o nb) o) o ni) o nb).2 (o + 1) 3 + (mWbN (mInsp (mNext (mGrow J o nb) o) o ni) o nb).1) := by
    simp only [fX7_week]; rw [mn, mi, lc_3]
  rw [ep, eq1, eq2]
  have hq : ∀ q, q ≠ 2 → (q < 15 ∨ 111 ≤ q) → (∀ n, n < ni → q ≠ 111 + 5 * n + 2) → (mWbN (mInsp (mNext (mGrow J o nb) o) o ni) o nb).2 (o + 1) q = J (o + 1) q := fun q q1 q2 q3 => by
    rw [l4 q (by omega), i3 q q3, hL q q1, g3 q (by omega)]
  have hh : ∀ j, j ≠ 6 → (cWN (cWI (jset K h 6 (K h 6 + 1)) h ni) h nb).2 h j = K h j := fun j hj => by
    rw [l2 h (by omega), c1 h (by omega), jset_nj hj]
  have hg : ∀ a, a < h + 5 → a ≠ h → (cWN (cWI (jset K h 6 (K h 6 + 1)) h ni) h nb).2 a = K a := fun a ha hb => by
    rw [l2 a (by omega), c1 a (by omega), jset_nf hb]
  refine ⟨l0, ⟨⟨h8, h6, by omega⟩, ⟨?_, ?_, ?_, ?_, ?_, ?_, ?_, ?_⟩, fun j hj => ?_, fun j hj => ?_, fun i hi => ?_, fun j hj => ?_, ?_, ?_⟩, fun a ha => ?_, fun a ha => ?_, hh 7 (by decide)⟩
  · rw [jset_nj (by decide), hh 4 (by decide), k4]
  · rw [jset_nj (by decide), hq 0 (by decide) (by decide) (by intro n hn; omega), s0]
  · rw [jset_nj (by decide), hh 5 (by decide), k5]
  · rw [jset_nj (by decide), hq 1 (by decide) (by decide) (by intro n hn; omega), s1]
  · rw [jset_nj (by decide), l2 h (by omega), hI]
  · rw [jset_nj (by decide), l4 2 (by omega), hJ]
  · rw [jset_eq, jset_eq, hq 3 (by decide) (by decide) (by intro n hn; omega), k7, l0]
  · rw [jset_nj (by decide), hh 8 (by decide), jset_nj (by decide), hq 4 (by decide) (by decide) (by intro n hn; omega), k8]
  · have e := hset j hj
    rw [jset_nf (by omega)] at e
    rw [jset_nf (by omega), hg (h + 3) (by omega) (by omega), jset_nj (by omega), hq (7 + j) (by omega) (by omega) (by intro n hn; omega), e]
  · have e := hacc j hj
    rw [jset_nf (by omega)] at e
    rw [jset_nf (by omega), hg (h + 4) (by omega) (by omega), jset_nj (by omega), hq (11 + j) (by omega) (by omega) (by intro n hn; omega), e]
  · exact (l1 i hi).congr (jset_nf (by omega)) (fun q hq2 => jset_nj (by omega))
  · obtain ⟨⟨f0, f1, f2, f3, f4⟩, t0, M, D, t1, t2, t3, t4⟩ := his j hj
    rw [jset_nf (by omega)] at f0 f1 f2 f3 f4
    have e : (jset (cWN (cWI (jset K h 6 (K h 6 + 1)) h ni) h nb).2 h 7 (v + (cWN (cWI (jset K h 6 (K h 6 + 1)) h ni) h nb).1)) (h + 13 + j) = jset (jset K h 6 (K h 6 + 1)) (h + 13 + j) 2 0 (h + 13 + j) := by
      rw [jset_nf (by omega), l2 _ (by omega), c2 j hj]
    rw [e]
    have z2 : (mWbN (mInsp (mNext (mGrow J o nb) o) o ni) o nb).2 (o + 1) (111 + 5 * j + 2) = 0 := by rw [l4 _ (by omega), i2 j hj]
    have zk : ∀ k, k < 5 → k ≠ 2 → (jset (mWbN (mInsp (mNext (mGrow J o nb) o) o ni) o nb).2 (o + 1) 3 ((mWbN (mInsp (mNext (mGrow J o nb) o) o ni) o nb).2 (o + 1) 3 + (mWbN (mInsp (mNext (mGrow J o nb) o) o ni) o nb).1)) (o + 1) (111 + 5 * j + k) = J (o + 1) (111 + 5 * j + k) := fun k hk hk2 => by
      rw [jset_nj (by omega), hq _ (by omega) (by omega) (by intro n hn; omega)]
    have ck : ∀ k, k ≠ 2 → jset (jset K h 6 (K h 6 + 1)) (h + 13 + j) 2 0 (h + 13 + j) k = K (h + 13 + j) k := fun k hk => by
      rw [jset_nj hk, jset_na (by omega)]
    refine ⟨⟨?_, ?_, ?_, ?_, ?_⟩, ?_, M, 0, ?_, ?_, Nat.zero_le _, t4⟩
    · rw [ck 0 (by decide), zk 0 (by decide) (by decide), f0]
    · rw [ck 1 (by decide), zk 1 (by decide) (by decide), f1]
    · rw [jset_eq, jset_nj (by omega), z2]
    · rw [ck 3 (by decide), zk 3 (by decide) (by decide), f3]
    · rw [ck 4 (by decide), zk 4 (by decide) (by decide), f4]
    · rw [zk 0 (by decide) (by decide)]; exact t0
    · rw [zk 1 (by decide) (by decide)]; exact t1
    · rw [jset_nj (by omega), z2]; rfl
  · rw [jset_nj (by decide), hq 5 (by decide) (by decide) (by intro n hn; omega), hs5]
    exact (sm_congr (fun k hk => by rw [jset_nj (by omega), hq _ (by omega) (by omega) (by intro n hn; omega)])).symm
  · rw [jset_nj (by decide), hq 6 (by decide) (by decide) (by intro n hn; omega), hs6]
    exact (sm_congr (fun k hk => by rw [jset_nj (by omega), hq _ (by omega) (by omega) (by intro n hn; omega)])).symm
  · rw [l2 a (by omega), c1 a (by omega), jset_nf (by omega)]
  · rw [jset_nf ha, l3 a ha, i1 a ha, hLa a ha]
end PY
section PZ
variable {nb ni w : Nat} {I J : jI} {h o : Nat}
theorem w_pass (hR : Rp nb ni w I h (J (o + 1))) : ∀ k, w + k ≤ 9999 → (cPassN I h k).1 = (mPassN J o k).1 ∧ Rp nb ni (w + k) (jset (cPassN I h k).2 h 7 (I h 7 + (cPassN I h k).1)) h ((mPassN J o k).2 (o + 1)) ∧ (∀ a, (a < h ∨ h + 19 ≤ a) → (cPassN I h k).2 a = I a) ∧ (∀ a, a ≠ o + 1 → (mPassN J o k).2 a = J a) ∧ (cPassN I h k).2 h 7 = I h 7
  | 0, _ => ⟨rfl, by
      show Rp nb ni w (jset I h 7 (I h 7 + 0)) h (J (o + 1))
      have : jset I h 7 (I h 7 + 0) = I := by
        rw [Int32.add_zero]
        funext a b
        by_cases ha : a = h ∧ b = 7
        · obtain ⟨rfl, rfl⟩ := ha; exact jset_eq
        · simp [jset, ha]
      rw [this]; exact hR, fun _ _ => rfl, fun _ _ => rfl, rfl⟩
  | k + 1, hk => by
    obtain ⟨a0, a1, a2, a3, a4⟩ := w_pass hR k (by omega)
    obtain ⟨b0, b1, b2, b3, b4⟩ := w_week a1 (by omega)
    refine ⟨?_, ?_, fun a ha => (b2 a ha).trans (a2 a ha), fun a ha => (b3 a ha).trans (a3 a ha), b4.trans a4⟩
    · show (cPassN I h k).1 + _ = (mPassN J o k).1 + _
      rw [a0, b0]
    · rw [show w + (k + 1) = w + k + 1 by omega]
      show Rp nb ni (w + k + 1) (jset (fX2_letOneWeekPass (cPassN I h k).2 h).2 h 7 (I h 7 + ((cPassN I h k).1 + (fX2_letOneWeekPass (cPassN I h k).2 h).1))) h _
      rw [← Int32.add_assoc]
      exact b1
theorem o_pass (hR : R I h (J (o + 1))) (x : Int32) : OPC I J h o (fX2_letWeeksPass I h x) (fX7_passes J o x) := by
  obtain ⟨nb, ni, w, hR⟩ := hR
  have hw : w ≤ 9999 := hR.1.2.2
  unfold fX2_letWeeksPass fX7_passes
  rw [hR.hw, lc_2, hR.ww]
  by_cases c1 : x < 1
  · rw [if_pos c1, if_pos (show fX7_in J x 1 60 = 0 by unfold fX7_in; rw [if_pos c1])]
    exact OPC.err ⟨nb, ni, w, hR⟩
  · rw [if_neg c1]
    by_cases c2 : x ≤ 60
    · have n0 : ¬ x < 0 := fun q => c1 (by rw [Int32.lt_iff_toInt_lt] at q ⊢; exact Int.lt_trans q (by decide))
      obtain ⟨k, hk, rfl⟩ := nI_of2 (n := 60) rfl n0 c2
      have k1 : 1 ≤ k := Nat.not_lt.mp (fun q => c1 (nI_lt (a := k) (b := 1) q (by decide)))
      rw [if_pos c2, if_neg (show ¬ fX7_in J (nI k) 1 60 = 0 by rw [show fX7_in J (nI k) 1 60 = 1 from in_yes (a := k) (b := 1) (c := 60) rfl rfl rfl k1 hk (by decide)]; decide), nI_add, nI_clamp (by omega)]
      by_cases c3 : w + k ≤ 9999
      · rw [if_pos (show nI (w + k) ≤ 9999 from nI_le (a := w + k) (b := 9999) c3 (by decide)), if_pos (show nI (w + k) ≤ 9999 from nI_le (a := w + k) (b := 9999) c3 (by decide))]
        obtain ⟨a0, a1, a2, a3, a4⟩ := w_pass hR k c3
        refine ⟨a0, ⟨nb, ni, w + k, ?_⟩, fun a ha => ?_, a3⟩
        · show Rp nb ni (w + k) (jset (cPassN I h k).2 h 7 ((cPassN I h k).2 h 7 + (cPassN I h k).1)) h ((mPassN J o k).2 (o + 1))
          rw [a4]; exact a1
        · exact (jset_nf (by omega)).trans (a2 a ha)
      · rw [if_neg (show ¬ nI (w + k) ≤ 9999 from nI_ge (a := 9999) (b := w + k) (by omega) (by omega)), if_neg (show ¬ nI (w + k) ≤ 9999 from nI_ge (a := 9999) (b := w + k) (by omega) (by omega))]
        exact OPC.err ⟨nb, ni, w, hR⟩
    · rw [if_neg c2, if_pos (show fX7_in J x 1 60 = 0 by unfold fX7_in; rw [if_neg c1, if_pos (Int32.not_le.mp c2)])]
      exact OPC.err ⟨nb, ni, w, hR⟩
end PZ
