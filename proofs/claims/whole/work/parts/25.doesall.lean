theorem tA_T {I : jI} {o : Nat} (hT : jT I o) : jT (tA I o) o := hT.same (by unfold tA; rw [jset_n _ _ (by omega), jset_n _ _ (by omega)]) (by unfold tA; rw [jset_n _ _ (by omega), jset_n _ _ (by omega)])
theorem tB_T {I : jI} {o : Nat} (hT : jT I o) (h : ¬ I o 5 ≤ I o 6) : jT (tB (tA I o) o) o := by
  unfold tB
  split
  · rw [jset6]; exact tA_T hT
  · refine (tA_T hT).inc ?_
    have e6 : (tA I o) o 6 = I o 6 := by unfold tA; rw [jset_n _ _ (by omega), jset_n _ _ (by omega)]
    have e5 : (tA I o) o 5 = I o 5 := by unfold tA; rw [jset_n _ _ (by omega), jset_n _ _ (by omega)]
    rw [e5, e6]
    exact h
theorem tC_T {I : jI} {o : Nat} (hT : jT I o) (h : ¬ I o 5 ≤ I o 6) : jT (tC (tB (tA I o) o) o) o := (jStep.number (tB_T hT h)).1.set (by decide)
theorem tD_T {I : jI} {o : Nat} (hT : jT I o) (h : ¬ I o 5 ≤ I o 6) : jT (tD (tC (tB (tA I o) o) o) o (tSign I o)) o := by
  unfold tD
  split
  · exact (jStep.number (jStep.takes (x := 44) (tC_T hT h) (by decide)).1).1.set (by decide)
  · exact tC_T hT h
set_option maxRecDepth 100000 in
set_option maxHeartbeats 4000000 in
theorem d1X7 {S : jX} {I : jI} {o : Nat} {G : jG} {v9 : Value} (hM : jModel S o) (hT : jT I o) (h : J G (7, 0, 0) mX7_doesAll 42 [.ref o, .int (tSign I o)] [] S (tA I o) 0 0) : J G (7, 0, 0) mX7_doesAll 21 [.ref o, v9] [] S I 0 0 := by
  refine J_aload_n dX7_doesAll_21 rfl rfl ?_
  refine J_aload_n dX7_doesAll_22 rfl rfl ?_
  refine J_getI dX7_doesAll_23 flX7_138 rfl hM.1 ?_
  refine J_putI dX7_doesAll_26 flX7_161 rfl rfl rfl rfl hM.1 ?_
  refine J_aload_n dX7_doesAll_29 rfl rfl ?_
  refine J_cV0r (mc := mX7_here) hM.1 (by decide) rfl dX7_doesAll_30 mlX7_141 okX7_here (kX7_here S (jset I o 7 (I o 6)) o hM (hT.set (by decide))) (Nat.le_of_ble_eq_true rfl) (Nat.le_of_ble_eq_true rfl) (Nat.le_of_ble_eq_true rfl) (Nat.le_of_ble_eq_true rfl) ?_
  refine J_istore_n dX7_doesAll_33 (Nat.le_of_ble_eq_true rfl) ?_
  refine J_aload_n dX7_doesAll_34 rfl rfl ?_
  refine J_iload_n dX7_doesAll_35 rfl ?_
  refine J_cS1r (mc := mX7_isOrder) dX7_doesAll_36 mlX7_164 okX7_isOrder (kX7_isOrder S (jset I o 7 (I o 6)) (fX7_here (jset I o 7 (I o 6)) o) ) (Nat.le_of_ble_eq_true rfl) (Nat.le_of_ble_eq_true rfl) (Nat.le_of_ble_eq_true rfl) (Nat.le_of_ble_eq_true rfl) ?_
  refine J_putI dX7_doesAll_39 flX7_144 rfl rfl (jBn jisO) (jBf jisO) hM.1 ?_
  exact h
set_option maxRecDepth 100000 in
set_option maxHeartbeats 4000000 in
theorem d2X7 {S : jX} {I : jI} {o : Nat} {G : jG} {sg : Int32} (hM : jModel S o)  (h : J G (7, 0, 0) mX7_doesAll 63 [.ref o, .int sg] [] S (tB I o) 0 0) : J G (7, 0, 0) mX7_doesAll 42 [.ref o, .int sg] [] S I 0 0 := by
  refine J_aload_n dX7_doesAll_42 rfl rfl ?_
  refine J_dup dX7_doesAll_43 rfl ?_
  refine J_getI dX7_doesAll_44 flX7_138 rfl hM.1 ?_
  refine J_aload_n dX7_doesAll_47 rfl rfl ?_
  refine J_getI dX7_doesAll_48 flX7_144 rfl hM.1 ?_
  refine J_if_eq (tgt := 58) dX7_doesAll_51 (by decide) (fun h1 => ?_) (fun h1 => ?_)
  · skip
    refine J_iconst (0) dX7_doesAll_58 rfl ?_
    refine J_iadd dX7_doesAll_59 ?_
    refine J_putI dX7_doesAll_60 flX7_138 rfl rfl rfl rfl hM.1 ?_
    simp only [tB, if_pos h1] at h
    exact h
  · skip
    refine J_iconst (1) dX7_doesAll_54 rfl ?_
    refine J_goto (tgt := 59) dX7_doesAll_55 (by decide) ?_
    refine J_iadd dX7_doesAll_59 ?_
    refine J_putI dX7_doesAll_60 flX7_138 rfl rfl rfl rfl hM.1 ?_
    simp only [tB, if_neg h1] at h
    exact h
set_option maxRecDepth 100000 in
set_option maxHeartbeats 4000000 in
theorem d3X7 {S : jX} {I : jI} {o : Nat} {G : jG} {sg : Int32} (hM : jModel S o) (hT : jT I o) (h : J G (7, 0, 0) mX7_doesAll 71 [.ref o, .int sg] [] S (tC I o) 0 0) : J G (7, 0, 0) mX7_doesAll 63 [.ref o, .int sg] [] S I 0 0 := by
  refine J_aload_n dX7_doesAll_63 rfl rfl ?_
  refine J_aload_n dX7_doesAll_64 rfl rfl ?_
  refine J_cV0r (mc := mX7_number) hM.1 (by decide) rfl dX7_doesAll_65 mlX7_167 okX7_number (kX7_number S I o hM hT) (Nat.le_of_ble_eq_true rfl) (Nat.le_of_ble_eq_true rfl) (Nat.le_of_ble_eq_true rfl) (Nat.le_of_ble_eq_true rfl) ?_
  refine J_putI dX7_doesAll_68 flX7_152 rfl rfl rfl rfl hM.1 ?_
  exact h
set_option maxRecDepth 100000 in
set_option maxHeartbeats 4000000 in
theorem d4X7 {S : jX} {I : jI} {o : Nat} {G : jG} {sg : Int32} (hM : jModel S o) (hT : jT I o) (h : J G (7, 0, 0) mX7_doesAll 91 [.ref o, .int sg] [] S (tD I o sg) 0 0) : J G (7, 0, 0) mX7_doesAll 71 [.ref o, .int sg] [] S I 0 0 := by
  refine J_iload_n dX7_doesAll_71 rfl ?_
  refine J_bipush (105) dX7_doesAll_72 rfl ?_
  refine J_icmp_ne (tgt := 91) dX7_doesAll_74 (by decide) (fun h1 => ?_) (fun h1 => ?_)
  · skip
    simp only [tD, if_neg h1] at h
    exact h
  · skip
    refine J_aload_n dX7_doesAll_77 rfl rfl ?_
    refine J_bipush (44) dX7_doesAll_78 rfl ?_
    refine J_cV1 (mc := mX7_takesSign) hM.1 (by decide) rfl dX7_doesAll_80 mlX7_170 okX7_takesSign (kX7_takesSign S I o 44 hM hT) (Nat.le_of_ble_eq_true rfl) (Nat.le_of_ble_eq_true rfl) (Nat.le_of_ble_eq_true rfl) (Nat.le_of_ble_eq_true rfl) ?_
    refine J_aload_n dX7_doesAll_83 rfl rfl ?_
    refine J_aload_n dX7_doesAll_84 rfl rfl ?_
    refine J_cV0r (mc := mX7_number) hM.1 (by decide) rfl dX7_doesAll_85 mlX7_167 okX7_number (kX7_number S (fX7_takesSign I o 44) o hM (jStep.takes hT (by decide)).1) (Nat.le_of_ble_eq_true rfl) (Nat.le_of_ble_eq_true rfl) (Nat.le_of_ble_eq_true rfl) (Nat.le_of_ble_eq_true rfl) ?_
    refine J_putI dX7_doesAll_88 flX7_155 rfl rfl rfl rfl hM.1 ?_
    simp only [tD, if_pos h1] at h
    exact h
set_option maxRecDepth 100000 in
set_option maxHeartbeats 4000000 in
theorem d5X7 {S : jX} {I : jI} {o : Nat} {G : jG} {sg : Int32} (hM : jModel S o) (hT : jT I o) (h : J G (7, 0, 0) mX7_doesAll 97 [.ref o, .int sg] [] S (tE I o) 0 0) : J G (7, 0, 0) mX7_doesAll 91 [.ref o, .int sg] [] S I 0 0 := by
  refine J_aload_n dX7_doesAll_91 rfl rfl ?_
  refine J_bipush (59) dX7_doesAll_92 rfl ?_
  refine J_cV1 (mc := mX7_takesSign) hM.1 (by decide) rfl dX7_doesAll_94 mlX7_170 okX7_takesSign (kX7_takesSign S I o 59 hM hT) (Nat.le_of_ble_eq_true rfl) (Nat.le_of_ble_eq_true rfl) (Nat.le_of_ble_eq_true rfl) (Nat.le_of_ble_eq_true rfl) ?_
  exact h
set_option maxRecDepth 100000 in
set_option maxHeartbeats 4000000 in
theorem d6X7 {S : jX} {I : jI} {o : Nat} {G : jG} {sg : Int32} (hM : jModel S o) (hI : jMInv I o) (h : J G (7, 0, 0) mX7_doesAll 117 [.ref o, .int sg] [] S (tF I o sg) 0 0) : J G (7, 0, 0) mX7_doesAll 97 [.ref o, .int sg] [] S I 0 0 := by
  refine J_aload_n dX7_doesAll_97 rfl rfl ?_
  refine J_aload_n dX7_doesAll_98 rfl rfl ?_
  refine J_getI dX7_doesAll_99 flX7_144 rfl hM.1 ?_
  refine J_if_eq (tgt := 113) dX7_doesAll_102 (by decide) (fun h1 => ?_) (fun h1 => ?_)
  · skip
    refine J_iconst (0) dX7_doesAll_113 rfl ?_
    refine J_putI dX7_doesAll_114 flX7_176 rfl rfl rfl rfl hM.1 ?_
    simp only [tF, if_pos h1] at h
    exact h
  · skip
    refine J_aload_n dX7_doesAll_105 rfl rfl ?_
    refine J_iload_n dX7_doesAll_106 rfl ?_
    refine J_cV1r (mc := mX7_called) hM.1 (by decide) rfl dX7_doesAll_107 mlX7_173 okX7_called (kX7_called S I o sg hM hI) (Nat.le_of_ble_eq_true rfl) (Nat.le_of_ble_eq_true rfl) (Nat.le_of_ble_eq_true rfl) (Nat.le_of_ble_eq_true rfl) ?_
    refine J_goto (tgt := 114) dX7_doesAll_110 (by decide) ?_
    refine J_putI dX7_doesAll_114 flX7_176 rfl rfl rfl rfl hM.1 ?_
    simp only [tF, if_neg h1] at h
    exact h
theorem tDone_keep {I : jI} {o : Nat} (hI : jMInv I o) (hT : jT I o) (h : ¬ I o 5 ≤ I o 6) : jMInv (tDone I o) o ∧ (tDone I o) o 5 = I o 5 ∧ (tDone I o) o 6 = (tRead I o) o 6 ∧ (tDone I o) o 10 = (tRead I o) o 10 ∧ (∀ b, b ≠ o → b ≠ o + 1 → (tDone I o) b = I b) ∧ jMInv (tRead I o) o := by
  obtain ⟨⟨r1, r2, r3⟩, -⟩ := tRead_ok hT h
  have hR : jMInv (tRead I o) o := hI.row (r2 (o + 1) (by omega))
  unfold tDone tF
  split
  · refine ⟨hR.row (by funext q; simp [jset]), ?_, ?_, ?_, fun b hb hb1 => ?_, hR⟩
    · rw [jset_n _ _ (by omega), r3]
    · rw [jset_n _ _ (by omega)]
    · rw [jset_n _ _ (by omega)]
    · rw [← r2 b hb]; funext q; simp [jset, hb]
  · have hc := jOn.called (I := tRead I o) (o := o) (x := tSign I o) hR
    refine ⟨(jMInv.called (x := tSign I o) hR).row (by funext q; simp [jset]), ?_, ?_, ?_, fun b hb hb1 => ?_, hR⟩
    · rw [jset_n _ _ (by omega), hc o (by omega), r3]
    · rw [jset_n _ _ (by omega), hc o (by omega)]
    · rw [jset_n _ _ (by omega), hc o (by omega)]
    · rw [← r2 b hb, ← hc b hb1]; funext q; simp [jset, hb]
def jLeft (I : jI) (o n : Nat) : Prop := ∀ a l : Nat, a ≤ 60 → l ≤ 60 → I o 6 = nI a → I o 5 = nI l → l < a + n
set_option maxRecDepth 100000 in
set_option maxHeartbeats 4000000 in
theorem lX7_doesAll {S : jX} {o : Nat} {G : jG} {Φ : Option Value → jX → jI → Prop} (hM : jModel S o) (hR : jR G (7, 0, 0) Φ) : ∀ (n : Nat) (I : jI) (v9 : Value), jMInv I o → jT I o → jLeft I o n → Φ (some (.int (tAll o n I).1)) S (tAll o n I).2 → J G (7, 0, 0) mX7_doesAll 10 [.ref o, v9] [] S I 0 0 := by
  intro n
  induction n with
  | zero =>
    intro I v9 hI hT hL hΦ
    refine J_aload_n dX7_doesAll_10 rfl rfl ?_
    refine J_getI dX7_doesAll_11 flX7_138 rfl hM.1 ?_
    refine J_aload_n dX7_doesAll_14 rfl rfl ?_
    refine J_getI dX7_doesAll_15 flX7_135 rfl hM.1 ?_
    refine J_icmp_ge (tgt := 148) dX7_doesAll_18 (by decide) (fun h1 => ?_) (fun h1 => ?_)
    · skip
      refine J_iconst (1) dX7_doesAll_148 rfl ?_
      exact J_iret (ty := .boolean) hR dX7_doesAll_149 rfl rfl (Nat.le_of_ble_eq_true rfl) (Nat.le_of_ble_eq_true rfl) hΦ
    · skip
      exact absurd h1 (by intro hc; obtain ⟨a, l, g1, g2, g3, g4⟩ := hT; have := hL a l (by omega) (by omega) g1 g2; omega)
  | succ n ih =>
    intro I v9 hI hT hL hΦ
    refine J_aload_n dX7_doesAll_10 rfl rfl ?_
    refine J_getI dX7_doesAll_11 flX7_138 rfl hM.1 ?_
    refine J_aload_n dX7_doesAll_14 rfl rfl ?_
    refine J_getI dX7_doesAll_15 flX7_135 rfl hM.1 ?_
    refine J_icmp_ge (tgt := 148) dX7_doesAll_18 (by decide) (fun h1 => ?_) (fun h1 => ?_)
    · skip
      refine J_iconst (1) dX7_doesAll_148 rfl ?_
      exact J_iret (ty := .boolean) hR dX7_doesAll_149 rfl rfl (Nat.le_of_ble_eq_true rfl) (Nat.le_of_ble_eq_true rfl) (by unfold tAll at hΦ; rw [if_pos h1] at hΦ; exact hΦ)
    · skip
      refine d1X7 hM hT ?_
      obtain ⟨⟨r1, r2, r3⟩, r4⟩ := tRead_ok hT h1
      obtain ⟨k1, k2, k3, k4, k5, k6⟩ := tDone_keep hI hT h1
      refine d2X7 hM (d3X7 hM ?_ (d4X7 hM ?_ (d5X7 hM ?_ (d6X7 hM k6 ?_))))
      · exact (tB_T hT h1)
      · exact (tC_T hT h1)
      · exact (tD_T hT h1)
      show J G (7, 0, 0) mX7_doesAll 117 [.ref o, .int (tSign I o)] [] S (tDone I o) 0 0
      refine J_aload_n dX7_doesAll_117 rfl rfl ?_
      refine J_getI dX7_doesAll_118 flX7_144 rfl hM.1 ?_
      refine J_if_eq (tgt := 133) dX7_doesAll_121 (by decide) (fun h21 => ?_) (fun h21 => ?_)
      · skip
        refine J_iconst (0) dX7_doesAll_133 rfl ?_
        exact J_iret (ty := .boolean) hR dX7_doesAll_134 rfl rfl (Nat.le_of_ble_eq_true rfl) (Nat.le_of_ble_eq_true rfl) (by unfold tAll at hΦ; first | (rw [if_neg h1, if_pos h21] at hΦ; exact hΦ) | (rw [if_neg h1, if_neg h21, if_neg h22] at hΦ; exact hΦ))
      · skip
        refine J_aload_n dX7_doesAll_124 rfl rfl ?_
        refine J_getI dX7_doesAll_125 flX7_176 rfl hM.1 ?_
        refine J_ldc (-2000000001) dX7_doesAll_128 jw_760 ?_
        refine J_icmp_gt (tgt := 135) dX7_doesAll_130 (by decide) (fun h22 => ?_) (fun h22 => ?_)
        · skip
          refine J_aload_n dX7_doesAll_135 rfl rfl ?_
          refine J_dup dX7_doesAll_136 rfl ?_
          refine J_getI dX7_doesAll_137 flX7_158 rfl hM.1 ?_
          refine J_iconst (1) dX7_doesAll_140 rfl ?_
          refine J_iadd dX7_doesAll_141 ?_
          refine J_putI dX7_doesAll_142 flX7_158 rfl rfl rfl rfl hM.1 ?_
          refine J_goto (tgt := 10) dX7_doesAll_145 (by decide) ?_
          have k4n : ¬ (tRead I o) o 10 = 0 := by rw [← k4]; exact h21
          obtain ⟨a, a', e1, e2, e3, e4⟩ := r4 k4n
          have q6 : (jset (tDone I o) o 8 ((tDone I o) o 8 + 1)) o 6 = nI a' := by rw [jset_n _ _ (by omega), k3]; exact e2
          have q5 : (jset (tDone I o) o 8 ((tDone I o) o 8 + 1)) o 5 = I o 5 := by rw [jset_n _ _ (by omega), k2]
          refine ih (jset (tDone I o) o 8 ((tDone I o) o 8 + 1)) _ (k1.row (by funext q; simp [jset])) ?_ ?_ ?_
          · exact r1.same (by rw [q6, e2]) (by rw [q5, r3])
          · intro b l hb hl g1 g2
            rw [q6, nI_eq (by omega) (by omega)] at g1
            rw [q5] at g2
            have := hL a l (by omega) hl e1 g2
            omega
          · unfold tAll at hΦ
            rw [if_neg h1, if_neg h21, if_pos h22] at hΦ
            exact hΦ
        · skip
          refine J_iconst (0) dX7_doesAll_133 rfl ?_
          exact J_iret (ty := .boolean) hR dX7_doesAll_134 rfl rfl (Nat.le_of_ble_eq_true rfl) (Nat.le_of_ble_eq_true rfl) (by unfold tAll at hΦ; first | (rw [if_neg h1, if_pos h21] at hΦ; exact hΦ) | (rw [if_neg h1, if_neg h21, if_neg h22] at hΦ; exact hΦ))
set_option maxRecDepth 100000 in
set_option maxHeartbeats 4000000 in
theorem kX7_doesAll (S : jX) (I : jI) (o : Nat) (hM : jModel S o) (hI : jMInv I o) (hL : ∃ l : Nat, l ≤ 60 ∧ I o 5 = nI l) : jM (7, 0, 0) mX7_doesAll [.ref o] S I (jRes (some (.int (fX7_doesAll I o).1)) S (fX7_doesAll I o).2) := by
  refine jM.of (ls := [.ref o, .long 0]) (by decide) (Nat.le_of_ble_eq_true rfl) (by intro v hv; simp only [List.mem_cons, List.not_mem_nil, or_false] at hv; rcases hv with rfl <;> rfl) rfl (fun G hR => ?_)
  refine J_aload_n dX7_doesAll_0 rfl rfl ?_
  refine J_iconst (0) dX7_doesAll_1 rfl ?_
  refine J_putI dX7_doesAll_2 flX7_138 rfl rfl rfl rfl hM.1 ?_
  refine J_aload_n dX7_doesAll_5 rfl rfl ?_
  refine J_iconst (0) dX7_doesAll_6 rfl ?_
  refine J_putI dX7_doesAll_7 flX7_158 rfl rfl rfl rfl hM.1 ?_
  refine lX7_doesAll hM hR 61 (jset (jset I o 6 0) o 8 0) _ ?_ ?_ ?_ ?_
  · exact hI.row (by funext q; simp [jset])
  · obtain ⟨l, hl, e⟩ := hL
    exact ⟨0, l, by rw [jset_n _ _ (by omega), jset_o]; rfl, by rw [jset_n _ _ (by omega), jset_n _ _ (by omega)]; exact e, by omega, hl⟩
  · intro a l ha hl g1 g2
    omega
  · show jRes _ _ _ _ _ _
    exact ⟨rfl, rfl, rfl⟩
