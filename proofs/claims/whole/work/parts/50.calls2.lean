section CB
variable {I : jI}
def fPlay (J : jI) : Int32 × jI := (if (fX7_doesAll J 120).1 = 0 then (-2000000002) else (fX7_doesAll J 120).2 120 8, (fX7_doesAll J 120).2)
theorem fPlay_ok (K : jI) : fX7_play K 120 = fX7_acted (fPlay (fX7_begins K 120)).2 120 (fPlay (fX7_begins K 120)).1 := by
  unfold fX7_play fPlay
  split
  · rfl
  · rfl
theorem En.done {A B : jI} {b : Int32} (h : En A b B) : fX5_ordersDone A 119 = if b = 0 then (-2000000002) else B 120 8 := by
  unfold fX5_ordersDone
  rcases h with ⟨h1, h2, h3⟩ | ⟨h1, h2, -⟩ | ⟨h1, h2, -⟩
  · rw [h1, if_pos h2, if_neg (by decide), h3]
  · rw [h1, if_neg (by rw [h2]; decide), if_pos rfl]
  · rw [h1, if_neg (by rw [h2]; decide), if_pos rfl]
theorem c_play (hI : Inv I) : CallOk I (fX5_ordersDone (fX5_run (fX2_copyFrom I 20 1) 119 117 20) 119, fX5_run (fX2_copyFrom I 20 1) 119 117 20) fPlay := by
  have T : ∀ J : jI, J 121 = I 121 → J 120 5 = I 120 5 → J 124 = I 124 → ∃ b B', fX7_doesAll J 120 = (b, B') ∧ En (fX5_run (fX2_copyFrom I 20 1) 119 117 20) b B' ∧ Fr (fX5_run (fX2_copyFrom I 20 1) 119 117 20) B' I J := fun J a b c => t_run hI a b c
  generalize fX5_run (fX2_copyFrom I 20 1) 119 117 20 = K at T ⊢
  obtain ⟨n, m, hn, hm, e1, e2, e3, hs⟩ := id hI.2.2.1
  obtain ⟨b0, B0, d0, E0, F0⟩ := T I rfl rfl rfl
  have hi : ∀ a, 120 ≤ a → (fX6_settle K (fX5_ordersDone K 119) m).2 a = I a := fun a ha => settle_hi (p := (fX5_ordersDone K 119, K)) hI F0.2.1 hm ⟨_, F0.1.1⟩ ha
  have j1 : ∀ a, 120 ≤ a → a ≠ 122 → fX7_begins (fX6_settle K (fX5_ordersDone K 119) m).2 120 a = I a := fun a h1 h2 => by rw [beg_a h2, hi a h1]
  obtain ⟨b, B, hd, hE, hF⟩ := T _ (j1 121 (by decide) (by decide)) (by rw [j1 120 (by decide) (by decide)]) (j1 124 (by decide) (by decide))
  have e2' : fPlay (fX7_begins (fX6_settle K (fX5_ordersDone K 119) m).2 120) = (if b = 0 then (-2000000002) else B 120 8, B) := by
    unfold fPlay
    rw [hd]
  obtain ⟨a1, a2, a3⟩ := act_ok (p := (fX5_ordersDone K 119, K)) (q := (if b = 0 then (-2000000002) else B 120 8, B)) hI hm e2 hF.2.1 hF.2.2.1 hE.done (fun _ => hF.1) (fun a h1 h2 => hF.2.2.2.1 a h2 h1) hF.2.2.2.2.1 hF.2.2.2.2.2
  refine ⟨m, hm, e2, a1, hi, ?_, ?_⟩
  · dsimp only
    rw [e2']; exact a2
  · dsimp only
    rw [e2']; exact a3
/-- a call of the class, and the reference's q behind it -/
def Call2 (I : jI) (p : Int32 × jI) (q : jI → Int32 × jI) : Prop := (∀ a, 120 ≤ a → p.2 a = I a) ∧ p.1 = (q p.2).1 ∧ Inv (q p.2).2
theorem in_02 {J : jI} {x : Int32} : (fX7_in J x 0 2 = 0 ∧ (x < 0 ∨ (¬ x < 0 ∧ ¬ x ≤ 2))) ∨ (fX7_in J x 0 2 = 1 ∧ ¬ x < 0 ∧ x ≤ 2) := by
  unfold fX7_in
  by_cases c1 : x < 0
  · rw [if_pos c1]; exact Or.inl ⟨rfl, Or.inl c1⟩
  · rw [if_neg c1]
    by_cases c2 : (2 : Int32) < x
    · rw [if_pos c2]; exact Or.inl ⟨rfl, Or.inr ⟨c1, Int32.not_le.mpr c2⟩⟩
    · rw [if_neg c2]; exact Or.inr ⟨rfl, c1, Int32.not_lt.mp c2⟩
theorem c_fault (hI : Inv I) (x : Int32) : Call2 I (fX6_fault I x) (fun K => fX7_fault K 120 x) := by
  rcases in_02 (J := (fX6_fault I x).2) (x := x) with ⟨h1, h2⟩ | ⟨h1, h2, h3⟩
  · have e : fX6_fault I x = (-2000000001, I) := by
      unfold fX6_fault
      rcases h2 with h2 | ⟨h2, h3⟩
      · rw [if_pos h2]
      · rw [if_neg h2, if_neg h3]
    rw [e] at h1 ⊢
    have e2 : fX7_fault I 120 x = (-2000000001, I) := by
      unfold fX7_fault
      rw [if_pos h1]
    refine ⟨fun _ _ => rfl, ?_, ?_⟩
    · dsimp only; rw [e2]
    · dsimp only; rw [e2]; exact hI
  · have e : fX6_fault I x = (fX5_factOfFault (fX5_run (fX2_copyFrom I 20 1) 119 117 20) 119 x, fX5_run (fX2_copyFrom I 20 1) 119 117 20) := by
      unfold fX6_fault
      rw [if_neg h2, if_pos h3]
    rw [e] at h1 ⊢
    have T : ∀ J : jI, J 121 = I 121 → J 120 5 = I 120 5 → J 124 = I 124 → ∃ b B', fX7_doesAll J 120 = (b, B') ∧ En (fX5_run (fX2_copyFrom I 20 1) 119 117 20) b B' ∧ Fr (fX5_run (fX2_copyFrom I 20 1) 119 117 20) B' I J := fun J a b c => t_run hI a b c
    generalize fX5_run (fX2_copyFrom I 20 1) 119 117 20 = K at T h1 ⊢
    obtain ⟨n, m, hn, hm, e1, e2, e3, hs⟩ := id hI.2.2.1
    obtain ⟨b0, B0, d0, E0, F0⟩ := T I rfl rfl rfl
    have hi : ∀ a, 120 ≤ a → K a = I a := fun a ha => F0.2.1 a (by omega) (by omega) (by omega)
    have hp := F0.2.1
    have hp1 := F0.2.2.1
    refine ⟨hi, ?_⟩
    dsimp only at h1 ⊢
    have j1 : ∀ a, 120 ≤ a → a ≠ 122 → fX7_begins K 120 a = I a := fun a h1 h2 => by rw [beg_a h2, hi a h1]
    obtain ⟨b, B, hd, hE, hF⟩ := T _ (j1 121 (by decide) (by decide)) (by rw [j1 120 (by decide) (by decide)]) (j1 124 (by decide) (by decide))
    have eS : fX6_settle K (-2000000004) m = (-2000000004, K) := by
      unfold fX6_settle fX6_isError
      rw [if_neg (by decide)]
    obtain ⟨a1, a2, a3⟩ := act_ok (p := ((-2000000004 : Int32), K)) (q := ((-2000000004 : Int32), B)) hI hm e2 hp hp1 rfl (fun _ => hF.1) (fun a h1 h2 => by dsimp only; rw [eS]; exact hF.2.2.2.1 a h2 h1) (by dsimp only; rw [eS]; exact hF.2.2.2.2.1) (by dsimp only; rw [eS]; exact hF.2.2.2.2.2)
    have eA : fX7_acted B 120 (-2000000004) = (-2000000004, fX7_returns B 120) := by
      unfold fX7_acted
      rw [if_neg (by decide)]
    dsimp only at a3
    rw [eA] at a3
    dsimp only at a3
    have r120 : ∀ k, fX7_returns B 120 120 k = B 120 k := fun k => by rw [ret_a (by decide)]
    have n0 : ¬ fX7_in K x 0 2 = 0 := by rw [h1]; decide
    unfold fX7_fault fX5_factOfFault
    rw [if_neg n0, hd]
    dsimp only
    rw [r120, r120, r120, r120]
    rcases hE with ⟨g1, g2, g3⟩ | ⟨g1, g2, g3, g4, g5⟩ | ⟨g1, g2, g3, g4, g5⟩
    · rw [g1, if_pos g2, if_neg (by decide)]
      exact ⟨rfl, a3⟩
    · rw [g1, if_neg (by rw [g2]; decide), if_pos rfl, if_pos g3, if_pos g3, g2, g4, g5]
      by_cases x0 : x = 0
      · rw [if_pos x0, if_pos x0]; exact ⟨rfl, a3⟩
      · rw [if_neg x0, if_neg x0]
        by_cases x1 : x = 1
        · rw [if_pos x1, if_pos x1]; exact ⟨rfl, a3⟩
        · rw [if_neg x1, if_neg x1]; exact ⟨rfl, a3⟩
    · have n10 : ¬ B 120 10 = 0 := by rw [g3]; decide
      rw [g1, if_neg (by rw [g2]; decide), if_pos rfl, if_neg n10, if_neg n10, g2, g4, g5]
      by_cases x0 : x = 0
      · rw [if_pos x0, if_pos x0]; exact ⟨rfl, a3⟩
      · rw [if_neg x0, if_neg x0]
        by_cases x1 : x = 1
        · rw [if_pos x1, if_pos x1]; exact ⟨rfl, a3⟩
        · rw [if_neg x1, if_neg x1]; exact ⟨rfl, a3⟩
end CB
