section CC
variable {I : jI}
theorem undo_b {J : jI} {st a : Nat} (h : a ≠ 121) : mBack J 120 st a = J a := jrow_ne h
theorem undo_r {J : jI} {st k : Nat} (h : k < 141) : mBack J 120 st 121 k = J 123 (141 * st + k) := by
  show jrow J (120 + 1) (fun k => if k < 141 then J (120 + 3) (141 * st + k) else J (120 + 1) k) (120 + 1) k = _
  rw [jrow_eq, if_pos h]
set_option maxHeartbeats 1000000 in
theorem c_undo (hI : Inv I) : ∃ k, k < 4 ∧ jHInv I (39 + 2 + 19 * k) ∧ (I 39 2 + 4 - 1) - (I 39 2 + 4 - 1) / 4 * 4 = nI k ∧ Call2 I (fX6_undo I k) (fun K => fX7_undo K 120) := by
  obtain ⟨i1, i2, ⟨n, m, hn, hm, e1, e2, e3, hs⟩, i4, i5⟩ := id hI
  refine ⟨(m + 3) % 4, by omega, i4 _ (by omega), by rw [e2]; exact nI_mp hm, ?_⟩
  by_cases c : n = 0
  · subst c
    have e : fX6_undo I ((m + 3) % 4) = (-2000000002, I) := by
      unfold fX6_undo fX1_bringBack
      rw [if_pos (by rw [e1]; decide)]
    have e' : fX7_undo I 120 = (-2000000002, I) := by
      unfold fX7_undo
      rw [if_pos (by rw [e3]; decide)]
    rw [e]
    refine ⟨fun _ _ => rfl, ?_, ?_⟩
    · dsimp only; rw [e']
    · dsimp only; rw [e']; exact hI
  · obtain ⟨h1, h2⟩ := hs 0 (by omega)
    simp only [Nat.sub_zero] at h1 h2
    have hlt : (m + 3) % 4 < 4 := Nat.mod_lt _ (by decide)
    have C1 : R (fX2_copyFrom I 1 (39 + 2 + 19 * ((m + 3) % 4))) 1 (fun k => I 123 (141 * (n - 1) + k)) := cp_R (Or.inl (by omega)) h1
    have Ca : ∀ a, 20 ≤ a → fX2_copyFrom I 1 (39 + 2 + 19 * ((m + 3) % 4)) a = I a := fun a ha => cp_a h1 (Or.inr (by omega))
    have e : fX6_undo I ((m + 3) % 4) = (nI (n - 1), jset (jset (fX2_copyFrom I 1 (39 + 2 + 19 * ((m + 3) % 4))) 39 2 (nI ((m + 3) % 4))) 39 1 (nI (n - 1))) := by
      have z : (jset (fX2_copyFrom I 1 (39 + 2 + 19 * ((m + 3) % 4))) 39 2 (nI ((m + 3) % 4))) 39 1 - 1 = nI (n - 1) := by
        rw [jset_nj (by decide), Ca 39 (by decide), e1]
        obtain ⟨n', rfl⟩ : ∃ n', n = n' + 1 := ⟨n - 1, by omega⟩
        exact nI_pred n'
      unfold fX6_undo fX1_bringBack
      rw [if_neg (by rw [e1]; exact nI_nlt (a := n) (b := 1) (by omega) (by omega)), z, jset_eq]
    rw [e]
    clear e
    generalize eC : fX2_copyFrom I 1 (39 + 2 + 19 * ((m + 3) % 4)) = C at C1 Ca ⊢
    have Ka : ∀ a, a ≠ 39 → jset (jset C 39 2 (nI ((m + 3) % 4))) 39 1 (nI (n - 1)) a = C a := fun a ha => by rw [jset_nf ha, jset_nf ha]
    have K1 : jset (jset C 39 2 (nI ((m + 3) % 4))) 39 1 (nI (n - 1)) 39 1 = nI (n - 1) := jset_eq
    have K2 : jset (jset C 39 2 (nI ((m + 3) % 4))) 39 1 (nI (n - 1)) 39 2 = nI ((m + 3) % 4) := by rw [jset_nj (by decide), jset_eq]
    generalize jset (jset C 39 2 (nI ((m + 3) % 4))) 39 1 (nI (n - 1)) = K at Ka K1 K2 ⊢
    have K3 : K 120 3 = nI n := by rw [Ka 120 (by decide), Ca 120 (by decide), e3]
    have eM : fX7_undo K 120 = (nI (n - 1), mBack (jset K 120 3 (nI (n - 1))) 120 (n - 1)) := by
      have z : K 120 3 - 1 = nI (n - 1) := by
        rw [K3]
        obtain ⟨n', rfl⟩ : ∃ n', n = n' + 1 := ⟨n - 1, by omega⟩
        exact nI_pred n'
      unfold fX7_undo
      rw [if_neg (by rw [K3]; exact nI_ne0 (by omega) (by omega)), z, jset_eq, nI_clamp (by omega)]
    refine ⟨fun a ha => ?_, ?_, ?_⟩
    · dsimp only
      rw [Ka a (by omega), Ca a (by omega)]
    · dsimp only; rw [eM]
    · dsimp only
      rw [eM]
      dsimp only
      have La : ∀ a, 20 ≤ a → a ≠ 39 → a ≠ 120 → a ≠ 121 → mBack (jset K 120 3 (nI (n - 1))) 120 (n - 1) a = I a := fun a g0 g1 g2 g3 => by rw [undo_b g3, jset_nf g2, Ka a g1, Ca a g0]
      have Lr : ∀ k, k < 141 → mBack (jset K 120 3 (nI (n - 1))) 120 (n - 1) 121 k = I 123 (141 * (n - 1) + k) := fun k hk => by rw [undo_r hk, jset_nf (by decide), Ka 123 (by decide), Ca 123 (by decide)]
      refine ⟨C1.cg (fun a g1 g2 => by rw [undo_b (by omega), jset_nf (by omega), Ka a (by omega)]) Lr, h2.cg Lr, ⟨n - 1, (m + 3) % 4, by omega, hlt, ?_, ?_, ?_, fun j hj => ?_⟩, fun k hk => ?_, ?_⟩
      · rw [undo_b (by decide), jset_nf (by decide)]; exact K1
      · rw [undo_b (by decide), jset_nf (by decide)]; exact K2
      · rw [undo_b (by decide), jset_eq]
      · obtain ⟨g1, g2⟩ := hs (j + 1) (by omega)
        have es : ((m + 3) % 4 + 3 - j) % 4 = (m + 3 - (j + 1)) % 4 := by omega
        have er : n - 1 - 1 - j = n - 1 - (j + 1) := by omega
        have hl2 : (m + 3 - (j + 1)) % 4 < 4 := Nat.mod_lt _ (by decide)
        rw [es, er, La 123 (by decide) (by decide) (by decide) (by decide)]
        generalize (m + 3 - (j + 1)) % 4 = u at g1 hl2 ⊢
        exact ⟨g1.cg (fun a q1 q2 => La a (by omega) (by omega) (by omega) (by omega)) (fun _ _ => rfl), g2⟩
      · exact (i4 k hk).cg (fun a q1 q2 => La a (by omega) (by omega) (by omega) (by omega))
      · refine i5.cg ?_ ?_ ?_ ?_
        · rw [La 117 (by decide) (by decide) (by decide) (by decide)]
        · rw [undo_b (by decide), jset_nj (by decide), Ka 120 (by decide), Ca 120 (by decide)]
        · rw [La 118 (by decide) (by decide) (by decide) (by decide)]
        · rw [La 124 (by decide) (by decide) (by decide) (by decide)]
theorem Inv.txt {I' : jI} (hI : Inv I) (e : ∀ a, a ≠ 117 → a ≠ 118 → a ≠ 120 → a ≠ 124 → I' a = I a) (e3 : I' 120 3 = I 120 3) (ht : Tx I') : Inv I' := by
  obtain ⟨i1, i2, ⟨n, m, hn, hm, g1, g2, g3, hs⟩, i4, i5⟩ := hI
  refine ⟨i1.cg (fun a _ _ => e a (by omega) (by omega) (by omega) (by omega)) (fun k _ => by rw [e 121 (by decide) (by decide) (by decide) (by decide)]), i2.cg (fun k _ => by rw [e 121 (by decide) (by decide) (by decide) (by decide)]), ⟨n, m, hn, hm, ?_, ?_, e3.trans g3, fun j hj => ?_⟩, fun k hk => ?_, ht⟩
  · rw [e 39 (by decide) (by decide) (by decide) (by decide)]; exact g1
  · rw [e 39 (by decide) (by decide) (by decide) (by decide)]; exact g2
  · obtain ⟨h1, h2⟩ := hs j hj
    have hl2 : (m + 3 - j) % 4 < 4 := Nat.mod_lt _ (by decide)
    rw [e 123 (by decide) (by decide) (by decide) (by decide)]
    generalize (m + 3 - j) % 4 = u at h1 hl2 ⊢
    exact ⟨h1.cg (fun a q1 q2 => e a (by omega) (by omega) (by omega) (by omega)) (fun _ _ => rfl), h2⟩
  · exact (i4 k hk).cg (fun a q1 q2 => e a (by omega) (by omega) (by omega) (by omega))
theorem c_clearText (hI : Inv I) : Call2 I (fX6_clearText I) (fun K => fX7_clearText K 120) := by
  obtain ⟨l, l6, e1, e2, e3⟩ := id hI.2.2.2.2
  unfold fX6_clearText fX4_empty
  refine ⟨fun a ha => ?_, ?_, ?_⟩
  · dsimp only; exact jset_nf (by omega)
  · show I 117 1 = jset I 117 1 0 120 5
    rw [jset_nf (by decide), e1, e2]
  · show Inv (jset (jset I 117 1 0) 120 5 0)
    refine hI.txt (fun a g1 g2 g3 g4 => by rw [jset_nf g3, jset_nf g1]) (by rw [jset_nj (by decide), jset_nf (by decide)]) ⟨0, by decide, ?_, jset_eq, fun k hk => absurd hk (by omega)⟩
    rw [jset_nf (by decide), jset_eq]; rfl
theorem ch_ok : ∀ c, c < 127 → ((nI c).toUInt32 % 65536).toInt32 = nI c := by decide +kernel
theorem c_type (hI : Inv I) (x : Int32) : Call2 I (fX6_type I x) (fun K => fX7_type K 120 x) := by
  obtain ⟨l, l6, e1, e2, e3⟩ := id hI.2.2.2.2
  have hno : ∀ e : Int32, fX4_append I 117 x = (e, I) → fX7_type I 120 x = (e, I) → Call2 I (fX6_type I x) (fun K => fX7_type K 120 x) := by
    intro e h1 h2
    unfold fX6_type
    rw [h1]
    exact ⟨fun _ _ => rfl, by dsimp only; rw [h2], by dsimp only; rw [h2]; exact hI⟩
  by_cases c1 : x < 32
  · refine hno (-2000000001) ?_ ?_
    · unfold fX4_append
      rw [if_pos c1]
    · unfold fX7_type fX7_in
      rw [if_pos c1, if_pos rfl]
  · by_cases c2 : x ≤ 126
    · have c0 : ¬ x < 0 := fun q => c1 (by rw [Int32.lt_iff_toInt_lt] at q ⊢; exact Int.lt_trans q (by decide))
      obtain ⟨c, hc, rfl⟩ := nI_of2 (n := 126) rfl c0 c2
      have c32 : 32 ≤ c := Nat.not_lt.mp (fun q => c1 (nI_lt (a := c) (b := 32) q (by decide)))
      have hin : ∀ K : jI, ¬ fX7_in K (nI c) 32 126 = 0 := fun K => by
        unfold fX7_in
        rw [if_neg c1, if_neg (Int32.not_lt.mpr c2)]; decide
      by_cases cl : l = 60
      · subst cl
        refine hno (-2000000003) ?_ ?_
        · unfold fX4_append
          rw [if_neg c1, if_pos c2, e1, if_neg (by decide), if_neg (by decide)]
        · unfold fX7_type
          rw [if_neg (hin I), if_pos (show I 120 5 = 60 from e2)]
      · have eC : fX6_type I (nI c) = (nI (l + 1), jset (jset I 118 l (nI c)) 117 1 (nI (l + 1))) := by
          unfold fX6_type fX4_append
          have z : jset I (117 + 1) (I 117 1).toNatClampNeg (((nI c).toUInt32 % 65536).toInt32) = jset I 118 l (nI c) := by rw [e1, nI_clamp (by omega), ch_ok c (by omega)]
          have z2 : jset I 118 l (nI c) 117 1 + 1 = nI (l + 1) := by rw [jset_nf (by decide), e1, nI_1]
          rw [if_neg c1, if_pos c2, z, z2, jset_eq, e1, if_neg (nI_pos (by omega)), if_pos (show nI l < 60 from nI_lt (a := l) (b := 60) (by omega) (by decide))]
        rw [eC]
        have K5 : jset (jset I 118 l (nI c)) 117 1 (nI (l + 1)) 120 5 = nI l := by rw [jset_nf (by decide), jset_nf (by decide), e2]
        have Ka : ∀ a, a ≠ 117 → a ≠ 118 → jset (jset I 118 l (nI c)) 117 1 (nI (l + 1)) a = I a := fun a g1 g2 => by rw [jset_nf g1, jset_nf g2]
        have K1 : jset (jset I 118 l (nI c)) 117 1 (nI (l + 1)) 117 1 = nI (l + 1) := jset_eq
        have Kr : jset (jset I 118 l (nI c)) 117 1 (nI (l + 1)) 118 = jset I 118 l (nI c) 118 := jset_nf (by decide)
        generalize jset (jset I 118 l (nI c)) 117 1 (nI (l + 1)) = K at K5 Ka K1 Kr ⊢
        have eM : fX7_type K 120 (nI c) = (nI (l + 1), jset (jset K 124 l (nI c)) 120 5 (nI (l + 1))) := by
          unfold fX7_type
          have z : jset K (120 + 4) (K 120 5).toNatClampNeg (nI c) = jset K 124 l (nI c) := by rw [K5, nI_clamp (by omega)]
          have z2 : jset K 124 l (nI c) 120 5 + 1 = nI (l + 1) := by rw [jset_nf (by decide), K5, nI_1]
          rw [if_neg (hin K), z, z2, jset_eq, K5, if_neg (show ¬ nI l = 60 from fun q => cl ((nI_eq (a := l) (b := 60) (by omega) (by decide)).mp q))]
        refine ⟨fun a ha => Ka a (by omega) (by omega), ?_, ?_⟩
        · dsimp only; rw [eM]
        · dsimp only; rw [eM]; dsimp only
          refine hI.txt (fun a g1 g2 g3 g4 => by rw [jset_nf g3, jset_nf g4, Ka a g1 g2]) (by rw [jset_nj (by decide), jset_nf (by decide), Ka 120 (by decide) (by decide)]) ⟨l + 1, by omega, ?_, jset_eq, fun k hk => ?_⟩
          · rw [jset_nf (by decide), jset_nf (by decide)]; exact K1
          · rw [jset_nf (by decide), jset_nf (by decide), jset_nf (by decide), Kr]
            by_cases ck : k = l
            · subst ck
              rw [jset_eq, jset_eq]
              exact ⟨rfl, c, c32, hc, rfl⟩
            · rw [jset_nj ck, jset_nj ck, Ka 124 (by decide) (by decide)]
              exact e3 k (by omega)
    · refine hno (-2000000001) ?_ ?_
      · unfold fX4_append
        rw [if_neg c1, if_neg c2]
      · unfold fX7_type fX7_in
        rw [if_neg c1, if_pos (Int32.not_le.mp c2), if_pos rfl]
theorem Inv.rp (hI : Inv I) : ∃ nb ni w, Rp nb ni w I 1 (I (120 + 1)) := hI.1
theorem r_boilerOf (hI : Inv I) (x y : Int32) : fX6_boilerOf I x y = fX7_boilerOf I 120 x y := by
  obtain ⟨nb, ni, w, h⟩ := hI.rp; exact q_boilerOf h x y
theorem r_paperOf (hI : Inv I) (x y : Int32) : fX6_paperOf I x y = fX7_paperOf I 120 x y := by
  obtain ⟨nb, ni, w, h⟩ := hI.rp; exact q_paperOf h x y
theorem r_inspectorOf (hI : Inv I) (x y : Int32) : fX6_inspectorOf I x y = fX7_inspectorOf I 120 x y := by
  obtain ⟨nb, ni, w, h⟩ := hI.rp; exact q_inspectorOf h x y
theorem r_why (hI : Inv I) (x y : Int32) : fX6_why I x y = fX7_why I 120 x y := by
  obtain ⟨nb, ni, w, h⟩ := hI.rp; exact q_why h x y
theorem r_account (hI : Inv I) (x : Int32) : fX6_account I x = fX7_account I 120 x := by
  obtain ⟨nb, ni, w, h⟩ := hI.rp; exact q_account h x
theorem r_would (hI : Inv I) (x y z : Int32) : fX6_would I x y z = fX7_would I 120 x y z := by
  obtain ⟨nb, ni, w, h⟩ := hI.rp; exact q_would h x y z
theorem r_better (hI : Inv I) (x : Int32) : fX6_better I x = fX7_better I 120 x := by
  obtain ⟨nb, ni, w, h⟩ := hI.rp; exact q_better h x
theorem r_first (hI : Inv I) (x : Int32) : fX6_first I x = fX7_first I 120 x := by
  obtain ⟨nb, ni, w, h⟩ := hI.rp; exact q_first h x
theorem r_goesOn (hI : Inv I) (x : Int32) : fX6_goesOn I x = fX7_goesOn I 120 x := by
  obtain ⟨nb, ni, w, h⟩ := hI.rp; exact q_goesOn h x
theorem r_share (hI : Inv I) (x : Int32) : fX2_shareOfStrength I 1 x = fX7_share I 120 x ∧ (∀ b, fX2_boilerAt I 1 x = some b → 1 ≤ I b 0 → shOK (fX0_strength I b) (I b 0) = true) ∧ (¬ fX7_isBoiler I 120 x = 0 → shOK (fX7_strength I 120 x) (fX7_of I 120 x 0) = true) := by
  obtain ⟨nb, ni, w, h⟩ := hI.rp; exact q_share h x
theorem r_count (hI : Inv I) (x : Int32) : fX6_count I x = fX7_count I 120 x := by
  obtain ⟨nb, ni, w, h⟩ := hI.rp
  obtain ⟨n, m, -, -, e1, -, e3, -⟩ := hI.2.2.1
  obtain ⟨l, -, g1, g2, -⟩ := hI.2.2.2.2
  exact q_count (s := 39) (t := 117) h (e1.trans e3.symm) (g1.trans g2.symm) x
end CC
