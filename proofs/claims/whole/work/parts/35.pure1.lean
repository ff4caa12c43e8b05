/-- a boiler: the class's cell f, the reference's row t, in week w -/
def bR (w : Nat) (f t : Nat → Int32) (p : Nat) : Prop :=
  (f 0 = t (p + 0) ∧ f 1 = t (p + 1) ∧ f 2 = t (p + 2) ∧ f 3 = t (p + 3) ∧ f 4 = t (p + 4) ∧ f 6 = t (p + 6)) ∧
  (t (p + 3) = 0 ∨ (t (p + 3) = 1 ∧ f 7 = 1) ∨ (t (p + 3) = 2 ∧ f 5 = t (p + 5) ∧ ∃ e : Nat, t (p + 5) = nI e ∧ w < e ∧ e ≤ 20000)) ∧
  ((f 7 = 1 ∧ f 8 = t (p + 9) ∧ f 9 = t (p + 10) ∧ f 10 = t (p + 11) ∧ (t (p + 9) = 0 ∨ t (p + 9) = 1) ∧ ∃ l : Nat, t (p + 11) = nI l ∧ l ≤ 20000) ∨ (f 7 = 0 ∧ t (p + 9) = -1)) ∧
  ((f 11 = 1 ∧ f 12 = t (p + 7) ∧ f 13 = t (p + 8) ∧ ∃ q : Nat, t (p + 7) = nI q ∧ q ≤ 20000) ∨ (f 11 = 0 ∧ t (p + 7) = -1)) ∧
  (∃ B : Nat, 2 ≤ B ∧ B ≤ 40 ∧ t (p + 0) = nI B) ∧ (∃ W : Nat, W ≤ 40 ∧ t (p + 1) = nI W) ∧ (∃ X : Nat, X ≤ 200 ∧ t (p + 2) = nI X) ∧ (t (p + 6) = 0 ∨ t (p + 6) = 1)
theorem bR.congr {w p p' : Nat} {f t f' t' : Nat → Int32} (h : bR w f t p) (hf : f' = f) (ht : ∀ k, k < 12 → t' (p' + k) = t (p + k)) : bR w f' t' p' := by
  subst hf
  unfold bR at h ⊢
  rw [ht 0 (by decide), ht 1 (by decide), ht 2 (by decide), ht 3 (by decide), ht 4 (by decide), ht 5 (by decide), ht 6 (by decide), ht 7 (by decide), ht 8 (by decide), ht 9 (by decide), ht 10 (by decide), ht 11 (by decide)]
  exact h
/-- an inspector -/
def iR (f t : Nat → Int32) (p : Nat) : Prop := (f 0 = t (p + 0) ∧ f 1 = t (p + 1) ∧ f 2 = t (p + 2) ∧ f 3 = t (p + 3) ∧ f 4 = t (p + 4)) ∧ (t (p + 0) = 0 ∨ t (p + 0) = 1) ∧ ∃ M D : Nat, t (p + 1) = nI M ∧ t (p + 2) = nI D ∧ D ≤ M ∧ M ≤ 3
theorem iR.congr {p p' : Nat} {f t f' t' : Nat → Int32} (h : iR f t p) (hf : f' = f) (ht : ∀ k, k < 5 → t' (p' + k) = t (p + k)) : iR f' t' p' := by
  subst hf
  unfold iR at h ⊢
  rw [ht 0 (by decide), ht 1 (by decide), ht 2 (by decide), ht 3 (by decide), ht 4 (by decide)]
  exact h
/-- a sum -/
def sm (g : Nat → Int32) : Nat → Int32
  | 0 => 0
  | n + 1 => sm g n + g n
theorem sm_congr {g g' : Nat → Int32} : ∀ {n : Nat}, (∀ k, k < n → g' k = g k) → sm g' n = sm g n
  | 0, _ => rfl
  | n + 1, h => by
    show sm g' n + g' n = sm g n + g n
    rw [sm_congr (fun k hk => h k (by omega)), h n (by omega)]
theorem sm_add {g g' : Nat → Int32} {j : Nat} {x : Int32} (hj : g' j = g j + x) : ∀ {n : Nat}, j < n → (∀ k, k ≠ j → g' k = g k) → sm g' n = sm g n + x
  | 0, h, _ => absurd h (by omega)
  | n + 1, h, hh => by
    show sm g' n + g' n = sm g n + g n + x
    by_cases e : j = n
    · subst e
      rw [sm_congr (fun k hk => hh k (by omega)), hj, Int32.add_assoc]
    · rw [sm_add hj (by omega) hh, hh n (by omega), Int32.add_assoc, Int32.add_comm x, Int32.add_assoc]
/-- the House at h of the ints I, and the reference's row s -/
def Rp (nb ni w : Nat) (I : jI) (h : Nat) (s : Nat → Int32) : Prop :=
  (nb ≤ 8 ∧ ni ≤ 6 ∧ w ≤ 9999) ∧
  (I h 4 = nI nb ∧ s 0 = nI nb ∧ I h 5 = nI ni ∧ s 1 = nI ni ∧ I h 6 = nI w ∧ s 2 = nI w ∧ I h 7 = s 3 ∧ I h 8 = s 4) ∧
  (∀ j, j < 4 → I (h + 3) j = s (7 + j)) ∧ (∀ j, j < 4 → I (h + 4) j = s (11 + j)) ∧
  (∀ i, i < nb → bR w (I (h + 5 + i)) s (15 + 12 * i)) ∧
  (∀ j, j < ni → iR (I (h + 13 + j)) s (111 + 5 * j)) ∧
  s 5 = sm (fun j => s (111 + 5 * j + 3)) ni ∧ s 6 = sm (fun j => s (111 + 5 * j + 4)) ni
def R (I : jI) (h : Nat) (s : Nat → Int32) : Prop := ∃ nb ni w : Nat, Rp nb ni w I h s
theorem jset_eq {I : jI} {a j : Nat} {x : Int32} : jset I a j x a j = x := by simp [jset]
theorem jset_nj {I : jI} {a j b k : Nat} {x : Int32} (h : k ≠ j) : jset I a j x b k = I b k := by simp [jset, h]
theorem jset_na {I : jI} {a j b k : Nat} {x : Int32} (h : b ≠ a) : jset I a j x b k = I b k := by simp [jset, h]
theorem jset_nf {I : jI} {a j b : Nat} {x : Int32} (h : b ≠ a) : jset I a j x b = I b := by funext k; exact jset_na h
theorem lc_0 : ((0 : Int32).toNatClampNeg) = 0 := rfl
theorem lc_1 : ((1 : Int32).toNatClampNeg) = 1 := rfl
theorem lc_2 : ((2 : Int32).toNatClampNeg) = 2 := rfl
theorem lc_3 : ((3 : Int32).toNatClampNeg) = 3 := rfl
theorem lc_4 : ((4 : Int32).toNatClampNeg) = 4 := rfl
theorem lc_5 : ((5 : Int32).toNatClampNeg) = 5 := rfl
theorem lc_6 : ((6 : Int32).toNatClampNeg) = 6 := rfl
theorem lc_7 : ((7 : Int32).toNatClampNeg) = 7 := rfl
theorem lc_8 : ((8 : Int32).toNatClampNeg) = 8 := rfl
theorem lc_9 : ((9 : Int32).toNatClampNeg) = 9 := rfl
theorem lc_10 : ((10 : Int32).toNatClampNeg) = 10 := rfl
theorem lc_11 : ((11 : Int32).toNatClampNeg) = 11 := rfl
theorem lc_12 : ((12 : Int32).toNatClampNeg) = 12 := rfl
theorem lc_13 : ((13 : Int32).toNatClampNeg) = 13 := rfl
theorem lc_14 : ((14 : Int32).toNatClampNeg) = 14 := rfl
theorem of_0 {J : jI} {o i : Nat} (hi : i < 8) : fX7_of J o (nI i) 0 = J (o + 1) (15 + 12 * i + 0) := by
  unfold fX7_of
  rw [jof_n (w := 0) (k := 0) rfl hi rfl (by decide)]
theorem lays_0 {J : jI} {o i : Nat} {v : Int32} (hi : i < 8) : fX7_lays J o (nI i) 0 v = jset J (o + 1) (15 + 12 * i + 0) v := by
  unfold fX7_lays
  rw [jof_n (w := 0) (k := 0) rfl hi rfl (by decide)]
theorem of_1 {J : jI} {o i : Nat} (hi : i < 8) : fX7_of J o (nI i) 1 = J (o + 1) (15 + 12 * i + 1) := by
  unfold fX7_of
  rw [jof_n (w := 1) (k := 1) rfl hi rfl (by decide)]
theorem lays_1 {J : jI} {o i : Nat} {v : Int32} (hi : i < 8) : fX7_lays J o (nI i) 1 v = jset J (o + 1) (15 + 12 * i + 1) v := by
  unfold fX7_lays
  rw [jof_n (w := 1) (k := 1) rfl hi rfl (by decide)]
theorem of_2 {J : jI} {o i : Nat} (hi : i < 8) : fX7_of J o (nI i) 2 = J (o + 1) (15 + 12 * i + 2) := by
  unfold fX7_of
  rw [jof_n (w := 2) (k := 2) rfl hi rfl (by decide)]
theorem lays_2 {J : jI} {o i : Nat} {v : Int32} (hi : i < 8) : fX7_lays J o (nI i) 2 v = jset J (o + 1) (15 + 12 * i + 2) v := by
  unfold fX7_lays
  rw [jof_n (w := 2) (k := 2) rfl hi rfl (by decide)]
theorem of_3 {J : jI} {o i : Nat} (hi : i < 8) : fX7_of J o (nI i) 3 = J (o + 1) (15 + 12 * i + 3) := by
  unfold fX7_of
  rw [jof_n (w := 3) (k := 3) rfl hi rfl (by decide)]
theorem lays_3 {J : jI} {o i : Nat} {v : Int32} (hi : i < 8) : fX7_lays J o (nI i) 3 v = jset J (o + 1) (15 + 12 * i + 3) v := by
  unfold fX7_lays
  rw [jof_n (w := 3) (k := 3) rfl hi rfl (by decide)]
theorem of_4 {J : jI} {o i : Nat} (hi : i < 8) : fX7_of J o (nI i) 4 = J (o + 1) (15 + 12 * i + 4) := by
  unfold fX7_of
  rw [jof_n (w := 4) (k := 4) rfl hi rfl (by decide)]
theorem lays_4 {J : jI} {o i : Nat} {v : Int32} (hi : i < 8) : fX7_lays J o (nI i) 4 v = jset J (o + 1) (15 + 12 * i + 4) v := by
  unfold fX7_lays
  rw [jof_n (w := 4) (k := 4) rfl hi rfl (by decide)]
theorem of_5 {J : jI} {o i : Nat} (hi : i < 8) : fX7_of J o (nI i) 5 = J (o + 1) (15 + 12 * i + 5) := by
  unfold fX7_of
  rw [jof_n (w := 5) (k := 5) rfl hi rfl (by decide)]
theorem lays_5 {J : jI} {o i : Nat} {v : Int32} (hi : i < 8) : fX7_lays J o (nI i) 5 v = jset J (o + 1) (15 + 12 * i + 5) v := by
  unfold fX7_lays
  rw [jof_n (w := 5) (k := 5) rfl hi rfl (by decide)]
theorem of_6 {J : jI} {o i : Nat} (hi : i < 8) : fX7_of J o (nI i) 6 = J (o + 1) (15 + 12 * i + 6) := by
  unfold fX7_of
  rw [jof_n (w := 6) (k := 6) rfl hi rfl (by decide)]
theorem lays_6 {J : jI} {o i : Nat} {v : Int32} (hi : i < 8) : fX7_lays J o (nI i) 6 v = jset J (o + 1) (15 + 12 * i + 6) v := by
  unfold fX7_lays
  rw [jof_n (w := 6) (k := 6) rfl hi rfl (by decide)]
theorem of_7 {J : jI} {o i : Nat} (hi : i < 8) : fX7_of J o (nI i) 7 = J (o + 1) (15 + 12 * i + 7) := by
  unfold fX7_of
  rw [jof_n (w := 7) (k := 7) rfl hi rfl (by decide)]
theorem lays_7 {J : jI} {o i : Nat} {v : Int32} (hi : i < 8) : fX7_lays J o (nI i) 7 v = jset J (o + 1) (15 + 12 * i + 7) v := by
  unfold fX7_lays
  rw [jof_n (w := 7) (k := 7) rfl hi rfl (by decide)]
theorem of_8 {J : jI} {o i : Nat} (hi : i < 8) : fX7_of J o (nI i) 8 = J (o + 1) (15 + 12 * i + 8) := by
  unfold fX7_of
  rw [jof_n (w := 8) (k := 8) rfl hi rfl (by decide)]
theorem lays_8 {J : jI} {o i : Nat} {v : Int32} (hi : i < 8) : fX7_lays J o (nI i) 8 v = jset J (o + 1) (15 + 12 * i + 8) v := by
  unfold fX7_lays
  rw [jof_n (w := 8) (k := 8) rfl hi rfl (by decide)]
theorem of_9 {J : jI} {o i : Nat} (hi : i < 8) : fX7_of J o (nI i) 9 = J (o + 1) (15 + 12 * i + 9) := by
  unfold fX7_of
  rw [jof_n (w := 9) (k := 9) rfl hi rfl (by decide)]
theorem lays_9 {J : jI} {o i : Nat} {v : Int32} (hi : i < 8) : fX7_lays J o (nI i) 9 v = jset J (o + 1) (15 + 12 * i + 9) v := by
  unfold fX7_lays
  rw [jof_n (w := 9) (k := 9) rfl hi rfl (by decide)]
theorem of_10 {J : jI} {o i : Nat} (hi : i < 8) : fX7_of J o (nI i) 10 = J (o + 1) (15 + 12 * i + 10) := by
  unfold fX7_of
  rw [jof_n (w := 10) (k := 10) rfl hi rfl (by decide)]
theorem lays_10 {J : jI} {o i : Nat} {v : Int32} (hi : i < 8) : fX7_lays J o (nI i) 10 v = jset J (o + 1) (15 + 12 * i + 10) v := by
  unfold fX7_lays
  rw [jof_n (w := 10) (k := 10) rfl hi rfl (by decide)]
theorem of_11 {J : jI} {o i : Nat} (hi : i < 8) : fX7_of J o (nI i) 11 = J (o + 1) (15 + 12 * i + 11) := by
  unfold fX7_of
  rw [jof_n (w := 11) (k := 11) rfl hi rfl (by decide)]
theorem lays_11 {J : jI} {o i : Nat} {v : Int32} (hi : i < 8) : fX7_lays J o (nI i) 11 v = jset J (o + 1) (15 + 12 * i + 11) v := by
  unfold fX7_lays
  rw [jof_n (w := 11) (k := 11) rfl hi rfl (by decide)]
theorem jbyn {j k : Nat} {w : Int32} (hj : j < 6) (hw : w = nI k) (hk : k < 5) : (111 + 5 * nI j + w).toNatClampNeg = 111 + 5 * j + k := by
  subst hw
  exact jlin_n 111 5 j k 141 (by omega) (by decide)
theorem by_0 {J : jI} {o j : Nat} (hj : j < 6) : fX7_by J o (nI j) 0 = J (o + 1) (111 + 5 * j + 0) := by
  unfold fX7_by
  rw [jbyn (w := 0) (k := 0) hj rfl (by decide)]
theorem counts_0 {J : jI} {o j : Nat} (hj : j < 6) : fX7_counts J o (nI j) 0 = jset J (o + 1) (111 + 5 * j + 0) (J (o + 1) (111 + 5 * j + 0) + 1) := by
  unfold fX7_counts
  rw [jbyn (w := 0) (k := 0) hj rfl (by decide)]
theorem by_1 {J : jI} {o j : Nat} (hj : j < 6) : fX7_by J o (nI j) 1 = J (o + 1) (111 + 5 * j + 1) := by
  unfold fX7_by
  rw [jbyn (w := 1) (k := 1) hj rfl (by decide)]
theorem counts_1 {J : jI} {o j : Nat} (hj : j < 6) : fX7_counts J o (nI j) 1 = jset J (o + 1) (111 + 5 * j + 1) (J (o + 1) (111 + 5 * j + 1) + 1) := by
  unfold fX7_counts
  rw [jbyn (w := 1) (k := 1) hj rfl (by decide)]
theorem by_2 {J : jI} {o j : Nat} (hj : j < 6) : fX7_by J o (nI j) 2 = J (o + 1) (111 + 5 * j + 2) := by
  unfold fX7_by
  rw [jbyn (w := 2) (k := 2) hj rfl (by decide)]
theorem counts_2 {J : jI} {o j : Nat} (hj : j < 6) : fX7_counts J o (nI j) 2 = jset J (o + 1) (111 + 5 * j + 2) (J (o + 1) (111 + 5 * j + 2) + 1) := by
  unfold fX7_counts
  rw [jbyn (w := 2) (k := 2) hj rfl (by decide)]
theorem by_3 {J : jI} {o j : Nat} (hj : j < 6) : fX7_by J o (nI j) 3 = J (o + 1) (111 + 5 * j + 3) := by
  unfold fX7_by
  rw [jbyn (w := 3) (k := 3) hj rfl (by decide)]
theorem counts_3 {J : jI} {o j : Nat} (hj : j < 6) : fX7_counts J o (nI j) 3 = jset J (o + 1) (111 + 5 * j + 3) (J (o + 1) (111 + 5 * j + 3) + 1) := by
  unfold fX7_counts
  rw [jbyn (w := 3) (k := 3) hj rfl (by decide)]
theorem by_4 {J : jI} {o j : Nat} (hj : j < 6) : fX7_by J o (nI j) 4 = J (o + 1) (111 + 5 * j + 4) := by
  unfold fX7_by
  rw [jbyn (w := 4) (k := 4) hj rfl (by decide)]
theorem counts_4 {J : jI} {o j : Nat} (hj : j < 6) : fX7_counts J o (nI j) 4 = jset J (o + 1) (111 + 5 * j + 4) (J (o + 1) (111 + 5 * j + 4) + 1) := by
  unfold fX7_counts
  rw [jbyn (w := 4) (k := 4) hj rfl (by decide)]
theorem in_yes {I : jI} {a b c : Nat} {x y z : Int32} (hx : x = nI a) (hy : y = nI b) (hz : z = nI c) (h1 : b ≤ a) (h2 : a ≤ c) (hc : c < 2 ^ 31) : fX7_in I x y z = 1 := by
  subst hx; subst hy; subst hz
  unfold fX7_in
  rw [if_neg (nI_nlt h1 (by omega)), if_neg (nI_nlt h2 hc)]
theorem in_cases (I : jI) (x y z : Int32) : fX7_in I x y z = 0 ∨ fX7_in I x y z = 1 := by
  unfold fX7_in
  split
  · exact Or.inl rfl
  · split
    · exact Or.inl rfl
    · exact Or.inr rfl
/-- a boiler's number, on both sides -/
theorem Rp.bx {nb ni w : Nat} {I J : jI} {h o : Nat} (hR : Rp nb ni w I h (J (o + 1))) (x : Int32) : (∃ i, i < nb ∧ i < 8 ∧ x = nI i ∧ fX2_boilerAt I h x = some (h + 5 + i) ∧ fX7_isBoiler J o x = 1) ∨ (fX2_boilerAt I h x = none ∧ fX7_isBoiler J o x = 0) := by
  obtain ⟨⟨h1, h2, h3⟩, ⟨e4, s0, e5, s1, -⟩, -⟩ := hR
  by_cases hx : x < 0
  · refine Or.inr ⟨by unfold fX2_boilerAt; rw [if_pos hx], by unfold fX7_isBoiler fX7_in; rw [if_pos hx]⟩
  · obtain ⟨i, hi, rfl⟩ := nI_of hx
    by_cases hb : i < nb
    · refine Or.inl ⟨i, hb, by omega, rfl, ?_, ?_⟩
      · unfold fX2_boilerAt
        rw [if_neg hx, e4, if_neg (nI_ge hb (by omega)), if_neg (show ¬ (8 : Int32) ≤ nI i from nI_ge (a := i) (b := 8) (by omega) (by decide)), nI_clamp (by omega)]
      · unfold fX7_isBoiler
        rw [lc_0, s0]
        obtain ⟨m, rfl⟩ : ∃ m, nb = m + 1 := ⟨nb - 1, by omega⟩
        exact in_yes (a := i) (b := 0) (c := m) rfl rfl (nI_pred m) (by omega) (by omega) (by omega)
    · refine Or.inr ⟨?_, ?_⟩
      · unfold fX2_boilerAt
        rw [if_neg hx, e4, if_pos (nI_le (by omega) (by omega))]
      · unfold fX7_isBoiler fX7_in
        rw [lc_0, s0, if_neg hx]
        match nb, hb with
        | 0, _ => rw [if_pos (show (nI 0 - 1 : Int32) < nI i by
            rw [Int32.lt_iff_toInt_lt, nI_toInt hi]
            exact Int.lt_of_lt_of_le (by decide) (Int.natCast_nonneg i))]
        | m + 1, hb => rw [nI_pred m, if_pos (nI_lt (by omega) (by omega))]
theorem Rp.ix {nb ni w : Nat} {I J : jI} {h o : Nat} (hR : Rp nb ni w I h (J (o + 1))) (x : Int32) : (∃ i, i < ni ∧ i < 6 ∧ x = nI i ∧ fX2_inspectorAt I h x = some (h + 13 + i) ∧ fX7_isInspector J o x = 1) ∨ (fX2_inspectorAt I h x = none ∧ fX7_isInspector J o x = 0) := by
  obtain ⟨⟨h1, h2, h3⟩, ⟨e4, s0, e5, s1, -⟩, -⟩ := hR
  by_cases hx : x < 0
  · refine Or.inr ⟨by unfold fX2_inspectorAt; rw [if_pos hx], by unfold fX7_isInspector fX7_in; rw [if_pos hx]⟩
  · obtain ⟨i, hi, rfl⟩ := nI_of hx
    by_cases hb : i < ni
    · refine Or.inl ⟨i, hb, by omega, rfl, ?_, ?_⟩
      · unfold fX2_inspectorAt
        rw [if_neg hx, e5, if_neg (nI_ge hb (by omega)), if_neg (show ¬ (6 : Int32) ≤ nI i from nI_ge (a := i) (b := 6) (by omega) (by decide)), nI_clamp (by omega)]
      · unfold fX7_isInspector
        rw [lc_1, s1]
        obtain ⟨m, rfl⟩ : ∃ m, ni = m + 1 := ⟨ni - 1, by omega⟩
        exact in_yes (a := i) (b := 0) (c := m) rfl rfl (nI_pred m) (by omega) (by omega) (by omega)
    · refine Or.inr ⟨?_, ?_⟩
      · unfold fX2_inspectorAt
        rw [if_neg hx, e5, if_pos (nI_le (by omega) (by omega))]
      · unfold fX7_isInspector fX7_in
        rw [lc_1, s1, if_neg hx]
        match ni, hb with
        | 0, _ => rw [if_pos (show (nI 0 - 1 : Int32) < nI i by
            rw [Int32.lt_iff_toInt_lt, nI_toInt hi]
            exact Int.lt_of_lt_of_le (by decide) (Int.natCast_nonneg i))]
        | m + 1, hb => rw [nI_pred m, if_pos (nI_lt (by omega) (by omega))]
section PB
variable {w : Nat} {I J : jI} {h o c i : Nat}
theorem p_has (hb : bR w (I c) (J (o + 1)) (15 + 12 * i)) (hi : i < 8) : fX7_hasPaper J o (nI i) = I c 7 := by
  obtain ⟨-, -, hp, -⟩ := hb
  unfold fX7_hasPaper
  rw [of_9 hi]
  rcases hp with ⟨h1, h2, h3, h4, h5, h6⟩ | ⟨h1, h2⟩
  · rw [h1]
    rcases h5 with h5 | h5 <;> rw [h5] <;> rfl
  · rw [h1, h2]; rfl
theorem p_shut (hb : bR w (I c) (J (o + 1)) (15 + 12 * i)) (hi : i < 8) (hw : J (o + 1) 2 = nI w) : fX7_isShut J o (nI i) = fX0_isShutIn I c (nI w) := by
  obtain ⟨-, -, -, hs, -⟩ := hb
  unfold fX7_isShut fX0_isShutIn fX7_in
  rw [of_7 hi, of_8 hi, lc_2, hw]
  rcases hs with ⟨h1, h2, h3, q, h4, h5⟩ | ⟨h1, h2⟩
  · rw [h1, h2, h3, if_neg (show ¬ (1 : Int32) = 0 by decide)]
    have : ¬ J (o + 1) (15 + 12 * i + 7) < 0 := by rw [h4]; exact nI_pos (by omega)
    rw [if_neg this]
    by_cases c1 : nI w < J (o + 1) (15 + 12 * i + 7)
    · rw [if_pos c1, if_pos rfl]
    · rw [if_neg c1]
      by_cases c2 : J (o + 1) (15 + 12 * i + 8) < nI w
      · rw [if_pos c2, if_pos rfl]
      · rw [if_neg c2, if_neg (by decide)]
  · rw [h1, if_pos rfl]
    rw [if_pos]
    rw [h2]; decide
theorem shut_01 (x : Int32) : fX0_isShutIn I c x = 0 ∨ fX0_isShutIn I c x = 1 := by
  unfold fX0_isShutIn
  repeat' split
  all_goals first | exact Or.inl rfl | exact Or.inr rfl
theorem p_whyF (hb : bR w (I c) (J (o + 1)) (15 + 12 * i)) (hi : i < 8) (hw : J (o + 1) 2 = nI w) : fX7_whyNotFired J o (nI i) = fX0_whyNotFiredIn I c (nI w) := by
  unfold fX7_whyNotFired fX0_whyNotFiredIn
  rw [p_shut hb hi hw, p_has hb hi, of_3 hi, of_6 hi, of_1 hi, of_10 hi]
  obtain ⟨⟨g0, g1, g2, g3, g4, g6⟩, ht, hp, -, -, -, -, h6⟩ := hb
  rw [← g3, ← g6, ← g1]
  replace ht : I c 3 = 0 ∨ I c 3 = 1 ∨ I c 3 = 2 := by rw [g3]; rcases ht with h | ⟨h, _⟩ | ⟨h, _⟩ <;> simp [h]
  replace h6 : I c 6 = 0 ∨ I c 6 = 1 := by rw [g6]; exact h6
  rcases ht with h | h | h
  · rcases h6 with k6 | k6
    · simp only [h, k6]
      rcases hp with ⟨q1, q2, q3, q4⟩ | ⟨q1, q2⟩
      · rw [← q3]; simp [q1]
      · simp [q1]
    · simp [h, k6]
  · simp [h]
  · simp [h]
theorem whyF_r (x : Int32) : fX0_whyNotFiredIn I c x ≤ 0 ↔ fX0_whyNotFiredIn I c x = 0 := by
  unfold fX0_whyNotFiredIn
  repeat' split
  all_goals decide
theorem p_whyI {q j : Nat} (hb : bR w (I c) (J (o + 1)) (15 + 12 * i)) (hi : i < 8) (hq : iR (I q) (J (o + 1)) (111 + 5 * j)) (hj : j < 6) : fX7_whyNotInspected J o (nI i) (nI j) = fX0_whyNotInspectedBy I c q := by
  unfold fX7_whyNotInspected fX0_whyNotInspectedBy fX3_left
  rw [of_3 hi, of_4 hi, of_6 hi, by_1 hj, by_2 hj]
  obtain ⟨⟨g0, g1, g2, g3, g4, g6⟩, ht, hp, -, -, -, -, h6⟩ := hb
  obtain ⟨⟨k0, k1, k2, k3, k4⟩, -, M, D, m1, m2, m3, m4⟩ := hq
  rw [← g3, ← g6, ← g4, k1, k2]
  replace ht : I c 3 = 0 ∨ I c 3 = 1 ∨ I c 3 = 2 := by rw [g3]; rcases ht with h | ⟨h, _⟩ | ⟨h, _⟩ <;> simp [h]
  replace h6 : I c 6 = 0 ∨ I c 6 = 1 := by rw [g6]; exact h6
  have hl : (J (o + 1) (111 + 5 * j + 2) = J (o + 1) (111 + 5 * j + 1)) ↔ ¬ (1 : Int32) ≤ J (o + 1) (111 + 5 * j + 1) - J (o + 1) (111 + 5 * j + 2) := by
    have m1 : J (o + 1) (111 + 5 * j + 1) = nI M := m1
    have m2 : J (o + 1) (111 + 5 * j + 2) = nI D := m2
    rw [m1, m2, pk_sub m3, nI_eq (by omega) (by omega), show (1 : Int32) = nI 1 from rfl, nI_leI (by omega) (by omega)]
    omega
  rcases ht with h | h | h
  · rcases h6 with k6 | k6
    · by_cases h4 : I c 4 = 0
      · simp [h, h4]
      · by_cases c1 : (1 : Int32) ≤ J (o + 1) (111 + 5 * j + 1) - J (o + 1) (111 + 5 * j + 2)
        · have c2 : ¬ J (o + 1) (111 + 5 * j + 2) = J (o + 1) (111 + 5 * j + 1) := fun q => (hl.mp q) c1
          simp [h, k6, h4, c1, c2]
        · have c2 := hl.mpr c1
          simp [h, k6, h4, c1, c2]
    · by_cases h4 : I c 4 = 0 <;> simp [h, k6, h4]
  · simp [h]
  · simp [h]
theorem whyI_r (q : Nat) : fX0_whyNotInspectedBy I c q ≤ 0 ↔ fX0_whyNotInspectedBy I c q = 0 := by
  unfold fX0_whyNotInspectedBy
  repeat' split
  all_goals decide
theorem p_str (hb : bR w (I c) (J (o + 1)) (15 + 12 * i)) (hi : i < 8) : ∃ S : Nat, S ≤ 40 ∧ fX7_strength J o (nI i) = nI S ∧ fX0_strength I c = nI S := by
  obtain ⟨⟨g0, g1, g2, g3, g4, g6⟩, -, -, -, ⟨B, B1, B2, B3⟩, -, ⟨X, X1, X2⟩, -⟩ := hb
  have B3 : J (o + 1) (15 + 12 * i + 0) = nI B := B3
  have X2 : J (o + 1) (15 + 12 * i + 2) = nI X := X2
  have e : nI B * (200 - nI X) / 200 = nI (B * (200 - X) / 200) := by
    rw [show (200 : Int32) = nI 200 from rfl, pk_sub X1, pk_mul, pk_div (by have := Nat.mul_le_mul B2 (Nat.sub_le 200 X); omega) (by decide) (by decide)]
  refine ⟨B * (200 - X) / 200, ?_, ?_, ?_⟩
  · have := Nat.mul_le_mul B2 (Nat.sub_le 200 X); omega
  · unfold fX7_strength; rw [of_0 hi, of_2 hi, B3, X2]; exact e
  · unfold fX0_strength; rw [g0, g2]; show J (o + 1) (15 + 12 * i + 0) * (200 - J (o + 1) (15 + 12 * i + 2)) / 200 = _; rw [B3, X2]; exact e
theorem p_prs (hb : bR w (I c) (J (o + 1)) (15 + 12 * i)) (hi : i < 8) (hs : ∀ j, j < 4 → I (h + 3) j = J (o + 1) (7 + j)) {y : Int32} (hy : y = 0 ∨ y = 1) : ∃ P : Nat, P ≤ 40 ∧ fX7_pressureBy J o (nI i) y = nI P ∧ fX2_pressureOffered I h c y = nI P := by
  obtain ⟨S, S1, S2, S3⟩ := p_str hb hi
  obtain ⟨⟨g0, g1, g2, g3, g4, g6⟩, -⟩ := hb
  have e9 : nI S * 9 / 10 = nI (S * 9 / 10) := by
    rw [show (9 : Int32) = nI 9 from rfl, pk_mul, show (10 : Int32) = nI 10 from rfl, pk_div (by omega) (by decide) (by decide)]
  unfold fX7_pressureBy fX2_pressureOffered
  rw [of_2 hi, S2, S3, e9, g2]
  rcases hy with rfl | rfl
  · have s0 : fX2_settingAt I h 0 = J (o + 1) 7 := by unfold fX2_settingAt; rw [if_neg (by decide), if_neg (by decide), lc_0]; exact hs 0 (by decide)
    rw [s0, show ((7 : Int32) + 0).toNatClampNeg = 7 from rfl]
    rw [if_pos rfl, if_pos rfl]
    by_cases c1 : J (o + 1) 7 < J (o + 1) (15 + 12 * i + 2)
    · refine ⟨0, by omega, by rw [if_pos c1]; rfl, by rw [if_neg (Int32.not_le.mpr c1)]; rfl⟩
    · rw [if_neg c1, if_pos (Int32.not_lt.mp c1)]
      refine ⟨S, S1, ?_, rfl⟩
      by_cases c2 : (1 : Int32) ≤ nI S
      · rw [if_pos c2]
      · rw [if_neg c2]
        rw [show (1 : Int32) = nI 1 from rfl, nI_leI (by omega) (by omega)] at c2
        rw [show S = 0 by omega]; rfl
  · have s0 : fX2_settingAt I h 1 = J (o + 1) 8 := by unfold fX2_settingAt; rw [if_neg (by decide), if_neg (by decide), lc_1]; exact hs 1 (by decide)
    rw [s0, show ((7 : Int32) + 1).toNatClampNeg = 8 from rfl]
    simp only [if_neg (show ¬ (1 : Int32) = 0 by decide)]
    by_cases c1 : J (o + 1) 8 < J (o + 1) (15 + 12 * i + 2)
    · refine ⟨0, by omega, by rw [if_pos c1]; rfl, by rw [if_neg (Int32.not_le.mpr c1)]; rfl⟩
    · rw [if_neg c1, if_pos (Int32.not_lt.mp c1)]
      refine ⟨S * 9 / 10, by omega, ?_, rfl⟩
      by_cases c2 : (1 : Int32) ≤ nI (S * 9 / 10)
      · rw [if_pos c2]
      · rw [if_neg c2]
        rw [show (1 : Int32) = nI 1 from rfl, nI_leI (by omega) (by omega)] at c2
        rw [show S * 9 / 10 = 0 by omega]; rfl
theorem p_last (hb : bR w (I c) (J (o + 1)) (15 + 12 * i)) (hi : i < 8) (hw : J (o + 1) 2 = nI w) (hw2 : I h 6 = nI w) (hw3 : w ≤ 9999) (y : Int32) : ∃ L : Nat, w ≤ L ∧ L ≤ w + 52 ∧ (y = 0 → ∃ X : Nat, X ≤ 200 ∧ L = w + (52 - X / 5)) ∧ (y ≠ 0 → L = w + 40) ∧ fX7_lastBy J o (nI i) y = nI L ∧ fX2_lastWeekOffered I h c y = nI L := by
  obtain ⟨⟨g0, g1, g2, g3, g4, g6⟩, -, -, -, -, -, ⟨X, X1, X2⟩, -⟩ := hb
  have X2 : J (o + 1) (15 + 12 * i + 2) = nI X := X2
  have g2 : I c 2 = J (o + 1) (15 + 12 * i + 2) := g2
  unfold fX7_lastBy fX2_lastWeekOffered
  rw [of_2 hi, lc_2, hw, hw2, g2, X2]
  by_cases hy : y = 0
  · simp only [if_pos hy]
    have e : nI w + (52 - nI X / 5) = nI (w + (52 - X / 5)) := by
      rw [show (5 : Int32) = nI 5 from rfl, pk_div (by omega) (by decide) (by decide), show (52 : Int32) = nI 52 from rfl, pk_sub (by omega), nI_add]
    exact ⟨w + (52 - X / 5), by omega, by omega, fun _ => ⟨X, X1, rfl⟩, fun q => absurd hy q, e, e⟩
  · simp only [if_neg hy]
    have e : nI w + 40 = nI (w + 40) := by rw [show (40 : Int32) = nI 40 from rfl, nI_add]
    exact ⟨w + 40, by omega, by omega, fun q => absurd q hy, fun _ => rfl, e, e⟩
end PB
