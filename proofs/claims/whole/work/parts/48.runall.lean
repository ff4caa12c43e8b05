/-! THE WHOLE TEXT, on both sides -/
section PU
variable {X : jI} {a t : Nat}
theorem x_sign (h : a ≠ t) {x : Int32} : (fX4_readSign X t x).2 a = X a := by
  unfold fX4_readSign
  split
  · exact jset_nf h
  · rfl
theorem x_digit (h : a ≠ t) : (fX4_readDigit X t).2 a = X a := by
  unfold fX4_readDigit
  split
  · rfl
  · split
    · exact jset_nf h
    · rfl
theorem x_num (h : a ≠ t) : (fX4_readNumber X t).2 a = X a := by
  unfold fX4_readNumber
  split
  · exact x_digit h
  · split
    · exact (x_digit h).trans (x_digit h)
    · exact (x_digit h).trans (x_digit h)
theorem x_kind (h : a ≠ t) : (fX4_readKind X t).2 a = X a := by
  unfold fX4_readKind
  split
  · exact (jset_nf h).trans (jset_nf h)
  · split
    · exact (jset_nf h).trans (jset_nf h)
    · split
      · exact (jset_nf h).trans (jset_nf h)
      · split
        · exact (jset_nf h).trans (jset_nf h)
        · split
          · exact (jset_nf h).trans (jset_nf h)
          · split
            · exact (jset_nf h).trans (jset_nf h)
            · rfl
theorem x_rest (h : a ≠ 117) : (cRest X).2 a = X a := by
  unfold cRest
  split
  · exact (jset_nf h).trans (x_num h)
  · split
    · split
      · rw [x_sign h, jset_nf h, jset_nf h, x_num h]
      · split
        · show jset _ 117 6 _ a = _
          rw [jset_nf h, x_num h, x_sign h, jset_nf h, jset_nf h, x_num h]
        · rw [x_sign h, jset_nf h, x_num h, x_sign h, jset_nf h, jset_nf h, x_num h]
    · rw [x_sign h, jset_nf h, jset_nf h, x_num h]
theorem x_ord (h : a ≠ 117) : (fX4_readOrder X 117).2 a = X a := by
  rw [c_ord]
  split
  · exact (x_kind h).trans (jset_nf h)
  · rw [x_rest h, x_kind h, jset_nf h]
end PU
section PW2
variable {l : Nat} {A B A0 B0 : jI}
def Rn (l : Nat) (A B A0 B0 : jI) (k : Nat) : Prop :=
  (∃ a B', k ≤ a ∧ Qr l a (rehI A 119 117 20 k) B' A0 B0 ∧ tAll 120 61 B = tAll 120 (61 - k) B') ∨ (∃ b B', tAll 120 61 B = (b, B') ∧ En (rehI A 119 117 20 k) b B' ∧ Fr (rehI A 119 117 20 k) B' A0 B0 ∧ rehStep (rehI A 119 117 20 k) 119 117 20 = rehI A 119 117 20 k)
theorem run_at (Q0 : Qr l 0 A B A0 B0) : ∀ k, Rn l A B A0 B0 k
  | 0 => Or.inl ⟨0, B, Nat.le_refl _, Q0, rfl⟩
  | k + 1 => by
    have e : rehI A 119 117 20 (k + 1) = rehStep (rehI A 119 117 20 k) 119 117 20 := rfl
    rcases run_at Q0 k with ⟨a, B', h1, Q, h2⟩ | ⟨b, B', h1, h2, h3, h4⟩
    · have al : a ≤ l := Q.1.2.2.1
      have l6 : l ≤ 60 := Q.1.2.1
      rw [show 61 - k = (60 - k) + 1 by omega] at h2
      by_cases c : a = l
      · obtain ⟨g1, g2⟩ := st_end (n := 60 - k) Q c
        refine Or.inr ⟨1, B', h2.trans g2, ?_, ?_, ?_⟩
        · rw [e, g1]; exact Or.inl ⟨rfl, Q.2.1, Q.2.2.1⟩
        · rw [e, g1]; exact Q.2.2.2
        · rw [e, g1, g1]
      · rcases st_step (n := 60 - k) Q (by omega) with ⟨a', B2, g1, g2, g3⟩ | ⟨b, B2, g1, g2, g3, g4⟩
        · exact Or.inl ⟨a', B2, by omega, g2, by rw [show 61 - (k + 1) = 60 - k by omega]; exact h2.trans g3⟩
        · refine Or.inr ⟨b, B2, h2.trans g1, g2, g3, ?_⟩
          rw [e]
          exact if_neg g4
    · exact Or.inr ⟨b, B', h1, by rw [e, h4]; exact h2, by rw [e, h4]; exact h3, by rw [e, h4, h4]⟩
theorem Rn.R {k : Nat} (h : Rn l A B A0 B0 k) : ∃ s, R (rehI A 119 117 20 k) 20 s := by
  rcases h with ⟨a, B', h1, Q, h2⟩ | ⟨b, B', h1, h2, h3, h4⟩
  · exact ⟨_, Q.2.2.2.1.1⟩
  · exact ⟨_, h3.1.1⟩
theorem run_60 (Q0 : Qr l 0 A B A0 B0) : ∃ b B', tAll 120 61 B = (b, B') ∧ En (rehI A 119 117 20 60) b B' ∧ Fr (rehI A 119 117 20 60) B' A0 B0 := by
  rcases run_at Q0 60 with ⟨a, B', h1, Q, h2⟩ | ⟨b, B', h1, h2, h3, h4⟩
  · have al : a ≤ l := Q.1.2.2.1
    have l6 : l ≤ 60 := Q.1.2.1
    obtain ⟨g1, g2⟩ := st_end (n := 0) Q (by omega)
    exact ⟨1, B', h2.trans g2, Or.inl ⟨rfl, Q.2.1, Q.2.2.1⟩, Q.2.2.2⟩
  · exact ⟨b, B', h1, h2, h3⟩
end PW2
section PW3
variable {I J : jI}
/-- where the reading of a text begins -/
def t0 (I : jI) : jI := fX4_goToStart (jset (jset (fX2_copyFrom I 20 1) 119 0 0) 119 2 0) 117
theorem t0_a (hI : Inv I) {x : Nat} (h : x < 20 ∨ 39 ≤ x) (h1 : x ≠ 117) (h2 : x ≠ 119) : t0 I x = I x := by
  unfold t0 fX4_goToStart
  rw [jset_nf h1, jset_nf h2, jset_nf h2, cp_a hI.1 h]
theorem t0_Q (hI : Inv I) (j1 : J 121 = I 121) (j5 : J 120 5 = I 120 5) (j4 : J 124 = I 124) : ∃ l, Qr l 0 (t0 I) (jset (jset J 120 6 0) 120 8 0) I J := by
  obtain ⟨l, l6, e1, e2, e3⟩ := hI.2.2.2.2
  have c1 : t0 I 117 1 = I 117 1 := by
    unfold t0 fX4_goToStart
    rw [jset_nj (by decide), jset_nf (by decide), jset_nf (by decide), cp_a hI.1 (by omega)]
  refine ⟨l, ⟨⟨c1.trans e1, ?_, ?_, ?_⟩, l6, Nat.zero_le _, fun k hk => ?_⟩, ?_, ?_, ⟨?_, ?_⟩, fun x g1 g2 g3 => t0_a hI g1 g2 g3, c1, fun x g1 g2 => ?_, ?_, ?_⟩
  · rw [jset_nj (by decide), jset_nj (by decide), j5]; exact e2
  · unfold t0 fX4_goToStart
    rw [jset_eq]; rfl
  · rw [jset_nj (by decide), jset_eq]; rfl
  · rw [t0_a hI (by omega) (by decide) (by decide), jset_nf (by decide), jset_nf (by decide), j4]
    exact e3 k hk
  · unfold t0 fX4_goToStart
    rw [jset_nf (by decide), jset_eq]
  · unfold t0 fX4_goToStart
    rw [jset_nf (by decide), jset_nj (by decide), jset_eq, jset_eq]
  · rw [jset_nf (by decide), jset_nf (by decide), j1]
    refine (cp_R (o := 20) (Or.inr (by omega)) hI.1).cg (fun x g1 g2 => ?_) (fun _ _ => rfl)
    unfold t0 fX4_goToStart
    rw [jset_nf (by omega), jset_nf (by omega), jset_nf (by omega)]
  · rw [jset_nf (by decide), jset_nf (by decide), j1]; exact hI.2.1
  · rw [jset_nf g1, jset_nf g1]
  · rw [jset_nj (by decide), jset_nj (by decide)]
  · rw [jset_nj (by decide), jset_nj (by decide)]
theorem t_inv (hI : Inv I) : ∀ k, jHInv (fX4_readOrder (rehI (fX4_goToStart (jset (jset (fX2_copyFrom I 20 1) 119 0 0) 119 2 0) 117) 119 117 20 k) 117).2 20 := by
  intro k
  obtain ⟨l, Q⟩ := t0_Q (J := I) hI rfl rfl rfl
  obtain ⟨s, hR⟩ := (run_at Q k).R
  exact hR.hinv.cg (fun x g1 g2 => x_ord (by omega))
theorem t_run (hI : Inv I) (j1 : J 121 = I 121) (j5 : J 120 5 = I 120 5) (j4 : J 124 = I 124) : ∃ b B', fX7_doesAll J 120 = (b, B') ∧ En (fX5_run (fX2_copyFrom I 20 1) 119 117 20) b B' ∧ Fr (fX5_run (fX2_copyFrom I 20 1) 119 117 20) B' I J := by
  obtain ⟨l, Q⟩ := t0_Q (J := J) hI j1 j5 j4
  exact run_60 Q
end PW3
