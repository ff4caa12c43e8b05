set_option maxHeartbeats 4000000 in
theorem w1X7 {S : jX} {I : jI} {o : Nat} {G : jG} {n b : Int32} (hM : jModel S o) (hb : jB8 b) (h : J G (4, 0, 0) mX7_week 116 [.ref o, .int n, .int b] [] S (mDrop1 I o b) 0 0) : J G (4, 0, 0) mX7_week 84 [.ref o, .int n, .int b] [] S I 0 0 := by
  refine J_aload_n dX7_week_84 rfl rfl ?_
  refine J_iload_n dX7_week_85 rfl ?_
  refine J_cV1r (mc := mX7_hasPaper) hM.1 (by decide) rfl dX7_week_86 mlX7_46 okX7_hasPaper (kX7_hasPaper S I o b hM hb) (Nat.le_of_ble_eq_true rfl) (Nat.le_of_ble_eq_true rfl) (Nat.le_of_ble_eq_true rfl) (Nat.le_of_ble_eq_true rfl) ?_
  refine J_if_eq (tgt := 116) dX7_week_89 (by decide) (fun h1 => ?_) (fun h1 => ?_)
  · skip
    simp only [mDrop1, if_pos h1] at h
    exact h
  · skip
    refine J_aload_n dX7_week_92 rfl rfl ?_
    refine J_iload_n dX7_week_93 rfl ?_
    refine J_bipush (11) dX7_week_94 rfl ?_
    refine J_cV2r (mc := mX7_of) hM.1 (by decide) rfl dX7_week_96 mlX7_34 okX7_of (kX7_of S I o b 11 hM (jofv hb (k := 11) rfl (by decide))) (Nat.le_of_ble_eq_true rfl) (Nat.le_of_ble_eq_true rfl) (Nat.le_of_ble_eq_true rfl) (Nat.le_of_ble_eq_true rfl) ?_
    refine J_aload_n dX7_week_99 rfl rfl ?_
    refine J_getR dX7_week_100 flX7_7 rfl hM.1 hM.r0 ?_
    refine J_iconst (2) dX7_week_103 rfl ?_
    refine J_iaload dX7_week_104 hM.a0 (by unfold vp_in; decide) ?_
    refine J_icmp_ge (tgt := 116) dX7_week_105 (by decide) (fun h2 => ?_) (fun h2 => ?_)
    · skip
      simp only [mDrop1, if_neg h1, if_pos h2] at h
      exact h
    · skip
      refine J_aload_n dX7_week_108 rfl rfl ?_
      refine J_iload_n dX7_week_109 rfl ?_
      refine J_bipush (9) dX7_week_110 rfl ?_
      refine J_iconst (-1) dX7_week_112 rfl ?_
      refine J_cV3 (mc := mX7_lays) hM.1 (by decide) rfl dX7_week_113 mlX7_52 okX7_lays (kX7_lays S I o b 9 (-1) hM (jofv hb (k := 9) rfl (by decide))) (Nat.le_of_ble_eq_true rfl) (Nat.le_of_ble_eq_true rfl) (Nat.le_of_ble_eq_true rfl) (Nat.le_of_ble_eq_true rfl) ?_
      simp only [mDrop1, if_neg h1, if_neg h2] at h
      exact h
set_option maxHeartbeats 4000000 in
theorem w2X7 {S : jX} {I : jI} {o : Nat} {G : jG} {n b : Int32} (hM : jModel S o) (hb : jB8 b) (h : J G (4, 0, 0) mX7_week 150 [.ref o, .int n, .int b] [] S (mDrop2 I o b) 0 0) : J G (4, 0, 0) mX7_week 116 [.ref o, .int n, .int b] [] S I 0 0 := by
  refine J_aload_n dX7_week_116 rfl rfl ?_
  refine J_iload_n dX7_week_117 rfl ?_
  refine J_bipush (7) dX7_week_118 rfl ?_
  refine J_cV2r (mc := mX7_of) hM.1 (by decide) rfl dX7_week_120 mlX7_34 okX7_of (kX7_of S I o b 7 hM (jofv hb (k := 7) rfl (by decide))) (Nat.le_of_ble_eq_true rfl) (Nat.le_of_ble_eq_true rfl) (Nat.le_of_ble_eq_true rfl) (Nat.le_of_ble_eq_true rfl) ?_
  refine J_if_lt (tgt := 150) dX7_week_123 (by decide) (fun h1 => ?_) (fun h1 => ?_)
  · skip
    simp only [mDrop2, if_pos h1] at h
    exact h
  · skip
    refine J_aload_n dX7_week_126 rfl rfl ?_
    refine J_iload_n dX7_week_127 rfl ?_
    refine J_bipush (8) dX7_week_128 rfl ?_
    refine J_cV2r (mc := mX7_of) hM.1 (by decide) rfl dX7_week_130 mlX7_34 okX7_of (kX7_of S I o b 8 hM (jofv hb (k := 8) rfl (by decide))) (Nat.le_of_ble_eq_true rfl) (Nat.le_of_ble_eq_true rfl) (Nat.le_of_ble_eq_true rfl) (Nat.le_of_ble_eq_true rfl) ?_
    refine J_aload_n dX7_week_133 rfl rfl ?_
    refine J_getR dX7_week_134 flX7_7 rfl hM.1 hM.r0 ?_
    refine J_iconst (2) dX7_week_137 rfl ?_
    refine J_iaload dX7_week_138 hM.a0 (by unfold vp_in; decide) ?_
    refine J_icmp_ge (tgt := 150) dX7_week_139 (by decide) (fun h2 => ?_) (fun h2 => ?_)
    · skip
      simp only [mDrop2, if_neg h1, if_pos h2] at h
      exact h
    · skip
      refine J_aload_n dX7_week_142 rfl rfl ?_
      refine J_iload_n dX7_week_143 rfl ?_
      refine J_bipush (7) dX7_week_144 rfl ?_
      refine J_iconst (-1) dX7_week_146 rfl ?_
      refine J_cV3 (mc := mX7_lays) hM.1 (by decide) rfl dX7_week_147 mlX7_52 okX7_lays (kX7_lays S I o b 7 (-1) hM (jofv hb (k := 7) rfl (by decide))) (Nat.le_of_ble_eq_true rfl) (Nat.le_of_ble_eq_true rfl) (Nat.le_of_ble_eq_true rfl) (Nat.le_of_ble_eq_true rfl) ?_
      simp only [mDrop2, if_neg h1, if_neg h2] at h
      exact h
set_option maxHeartbeats 4000000 in
theorem w3X7 {S : jX} {I : jI} {o : Nat} {G : jG} {n b : Int32} (hM : jModel S o) (hb : jB8 b) (h : J G (4, 0, 0) mX7_week 184 [.ref o, .int (mOut I o n b).1, .int b] [] S (mOut I o n b).2 0 0) : J G (4, 0, 0) mX7_week 150 [.ref o, .int n, .int b] [] S I 0 0 := by
  refine J_aload_n dX7_week_150 rfl rfl ?_
  refine J_iload_n dX7_week_151 rfl ?_
  refine J_iconst (3) dX7_week_152 rfl ?_
  refine J_cV2r (mc := mX7_of) hM.1 (by decide) rfl dX7_week_153 mlX7_34 okX7_of (kX7_of S I o b 3 hM (jofv hb (k := 3) rfl (by decide))) (Nat.le_of_ble_eq_true rfl) (Nat.le_of_ble_eq_true rfl) (Nat.le_of_ble_eq_true rfl) (Nat.le_of_ble_eq_true rfl) ?_
  refine J_iconst (1) dX7_week_156 rfl ?_
  refine J_icmp_ne (tgt := 184) dX7_week_157 (by decide) (fun h1 => ?_) (fun h1 => ?_)
  · skip
    simp only [mOut, if_neg h1] at h
    exact h
  · skip
    refine J_aload_n dX7_week_160 rfl rfl ?_
    refine J_iload_n dX7_week_161 rfl ?_
    refine J_cV1r (mc := mX7_hasPaper) hM.1 (by decide) rfl dX7_week_162 mlX7_46 okX7_hasPaper (kX7_hasPaper S I o b hM hb) (Nat.le_of_ble_eq_true rfl) (Nat.le_of_ble_eq_true rfl) (Nat.le_of_ble_eq_true rfl) (Nat.le_of_ble_eq_true rfl) ?_
    refine J_if_eq (tgt := 176) dX7_week_165 (by decide) (fun h2 => ?_) (fun h2 => ?_)
    · skip
      refine J_aload_n dX7_week_176 rfl rfl ?_
      refine J_iload_n dX7_week_177 rfl ?_
      refine J_cV1 (mc := mX7_cools) hM.1 (by decide) rfl dX7_week_178 mlX7_56 okX7_cools (kX7_cools S I o b hM hb) (Nat.le_of_ble_eq_true rfl) (Nat.le_of_ble_eq_true rfl) (Nat.le_of_ble_eq_true rfl) (Nat.le_of_ble_eq_true rfl) ?_
      refine J_iinc (y := 1) dX7_week_181 rfl rfl ?_
      simp only [mOut, if_pos h1, if_pos h2] at h
      exact h
    · skip
      refine J_aload_n dX7_week_168 rfl rfl ?_
      refine J_iload_n dX7_week_169 rfl ?_
      refine J_cV1r (mc := mX7_isShut) hM.1 (by decide) rfl dX7_week_170 mlX7_42 okX7_isShut (kX7_isShut S I o b hM hb) (Nat.le_of_ble_eq_true rfl) (Nat.le_of_ble_eq_true rfl) (Nat.le_of_ble_eq_true rfl) (Nat.le_of_ble_eq_true rfl) ?_
      refine J_if_eq (tgt := 184) dX7_week_173 (by decide) (fun h3 => ?_) (fun h3 => ?_)
      · skip
        simp only [mOut, if_pos h1, if_neg h2, if_pos h3] at h
        exact h
      · skip
        refine J_aload_n dX7_week_176 rfl rfl ?_
        refine J_iload_n dX7_week_177 rfl ?_
        refine J_cV1 (mc := mX7_cools) hM.1 (by decide) rfl dX7_week_178 mlX7_56 okX7_cools (kX7_cools S I o b hM hb) (Nat.le_of_ble_eq_true rfl) (Nat.le_of_ble_eq_true rfl) (Nat.le_of_ble_eq_true rfl) (Nat.le_of_ble_eq_true rfl) ?_
        refine J_iinc (y := 1) dX7_week_181 rfl rfl ?_
        simp only [mOut, if_pos h1, if_neg h2, if_neg h3] at h
        exact h
set_option maxHeartbeats 4000000 in
theorem l3X7_week {S : jX} {I : jI} {o : Nat} {G : jG} {Φ : Option Value → jX → jI → Prop} (hM : jModel S o) (hR : jR G (4, 0, 0) Φ) {nb : Nat} (hn : nb ≤ 8) (hc : I (o + 1) 0 = nI nb) (hΦ : Φ (some (.int (mWbN I o nb).1)) S (jset (mWbN I o nb).2 (o + 1) ((3 : Int32).toNatClampNeg) ((mWbN I o nb).2 (o + 1) ((3 : Int32).toNatClampNeg) + (mWbN I o nb).1))) : ∀ (c i : Nat), i + c = nb → J G (4, 0, 0) mX7_week 69 [.ref o, .int (mWbN I o i).1, .int (nI i)] [] S (mWbN I o i).2 0 0 := by
  intro c
  induction c with
  | zero =>
    intro i hi
    have hi2 : i = nb := by omega
    subst hi2
    have hcc : (mWbN I o i).2 (o + 1) ((0 : Int32).toNatClampNeg) = nI i := ((jBo.wbN hn).2 0 (by omega)).trans hc
    refine J_iload_n dX7_week_69 rfl ?_
    refine J_aload_n dX7_week_70 rfl rfl ?_
    refine J_getR dX7_week_71 flX7_7 rfl hM.1 hM.r0 ?_
    refine J_iconst (0) dX7_week_74 rfl ?_
    refine J_iaload dX7_week_75 hM.a0 (by unfold vp_in; decide) ?_
    refine J_icmp_ge (tgt := 190) dX7_week_76 (by decide) (fun h1 => ?_) (fun h1 => ?_)
    · skip
      refine J_aload_n dX7_week_190 rfl rfl ?_
      refine J_getR dX7_week_191 flX7_7 rfl hM.1 hM.r0 ?_
      refine J_iconst (3) dX7_week_194 rfl ?_
      refine J_dup2 dX7_week_195 rfl rfl ?_
      refine J_iaload dX7_week_196 hM.a0 (by unfold vp_in; decide) ?_
      refine J_iload_n dX7_week_197 rfl ?_
      refine J_iadd dX7_week_198 ?_
      refine J_iastore dX7_week_199 hM.a0 (by unfold vp_in; decide) ?_
      refine J_iload_n dX7_week_200 rfl ?_
      exact J_iret (ty := .int) hR dX7_week_201 rfl rfl (Nat.le_of_ble_eq_true rfl) (Nat.le_of_ble_eq_true rfl) hΦ
    · skip
      exact absurd (by rw [hcc]; exact Int32.le_refl _) h1
  | succ c ih =>
    intro i hi
    have hcc : (mWbN I o i).2 (o + 1) ((0 : Int32).toNatClampNeg) = nI nb := ((jBo.wbN (by omega)).2 0 (by omega)).trans hc
    refine J_iload_n dX7_week_69 rfl ?_
    refine J_aload_n dX7_week_70 rfl rfl ?_
    refine J_getR dX7_week_71 flX7_7 rfl hM.1 hM.r0 ?_
    refine J_iconst (0) dX7_week_74 rfl ?_
    refine J_iaload dX7_week_75 hM.a0 (by unfold vp_in; decide) ?_
    refine J_icmp_ge (tgt := 190) dX7_week_76 (by decide) (fun h1 => ?_) (fun h1 => ?_)
    · skip
      exact absurd h1 (by rw [hcc]; exact nI_ge (by omega) (by omega))
    · skip
      refine J_aload_n dX7_week_79 rfl rfl ?_
      refine J_iload_n dX7_week_80 rfl ?_
      refine J_cV1 (mc := mX7_repairs) hM.1 (by decide) rfl dX7_week_81 mlX7_63 okX7_repairs (kX7_repairs S ((mWbN I o i).2) o (nI i) hM ⟨i, by omega, rfl⟩) (Nat.le_of_ble_eq_true rfl) (Nat.le_of_ble_eq_true rfl) (Nat.le_of_ble_eq_true rfl) (Nat.le_of_ble_eq_true rfl) ?_
      refine w1X7 hM ⟨i, by omega, rfl⟩ (w2X7 hM ⟨i, by omega, rfl⟩ (w3X7 hM ⟨i, by omega, rfl⟩ ?_))
      refine J_iinc (y := 1) dX7_week_184 rfl rfl ?_
      refine J_goto (tgt := 69) dX7_week_187 (by decide) ?_
      refine J_eq (ls' := [.ref o, .int (mWbN I o (i + 1)).1, .int (nI (i + 1))]) (by rw [← nI_1]; rfl) rfl (ih (i + 1) (by omega))
set_option maxHeartbeats 4000000 in
theorem l2X7_week {S : jX} {I : jI} {o : Nat} {G : jG} (hM : jModel S o) {m : Nat} (hm : m ≤ 6) (hc : I (o + 1) 1 = nI m) {n : Int32} (hnx : J G (4, 0, 0) mX7_week 67 [.ref o, .int n, .int (nI m)] [] S (mInsp I o m) 0 0) : ∀ (c i : Nat), i + c = m → J G (4, 0, 0) mX7_week 37 [.ref o, .int n, .int (nI i)] [] S (mInsp I o i) 0 0 := by
  intro c
  induction c with
  | zero =>
    intro i hi
    have hi2 : i = m := by omega
    subst hi2
    have hcc : (mInsp I o i) (o + 1) ((1 : Int32).toNatClampNeg) = nI i := (mInsp_ne (Or.inr (fun j => (show (1 : Nat) ≠ _ by omega))) i).trans hc
    refine J_iload_n dX7_week_37 rfl ?_
    refine J_aload_n dX7_week_38 rfl rfl ?_
    refine J_getR dX7_week_39 flX7_7 rfl hM.1 hM.r0 ?_
    refine J_iconst (1) dX7_week_42 rfl ?_
    refine J_iaload dX7_week_43 hM.a0 (by unfold vp_in; decide) ?_
    refine J_icmp_ge (tgt := 67) dX7_week_44 (by decide) (fun h1 => ?_) (fun h1 => ?_)
    · skip
      exact hnx
    · skip
      exact absurd (by rw [hcc]; exact Int32.le_refl _) h1
  | succ c ih =>
    intro i hi
    have hcc : (mInsp I o i) (o + 1) ((1 : Int32).toNatClampNeg) = nI m := (mInsp_ne (Or.inr (fun j => (show (1 : Nat) ≠ _ by omega))) i).trans hc
    have hix : (111 + 5 * nI i + (2 : Int32)).toNatClampNeg = 111 + 5 * i + 2 := jlin_n 111 5 i 2 141 (by omega) (by decide)
    refine J_iload_n dX7_week_37 rfl ?_
    refine J_aload_n dX7_week_38 rfl rfl ?_
    refine J_getR dX7_week_39 flX7_7 rfl hM.1 hM.r0 ?_
    refine J_iconst (1) dX7_week_42 rfl ?_
    refine J_iaload dX7_week_43 hM.a0 (by unfold vp_in; decide) ?_
    refine J_icmp_ge (tgt := 67) dX7_week_44 (by decide) (fun h1 => ?_) (fun h1 => ?_)
    · skip
      exact absurd h1 (by rw [hcc]; exact nI_ge (by omega) (by omega))
    · skip
      refine J_aload_n dX7_week_47 rfl rfl ?_
      refine J_getR dX7_week_48 flX7_7 rfl hM.1 hM.r0 ?_
      refine J_bipush (111) dX7_week_51 rfl ?_
      refine J_iconst (5) dX7_week_53 rfl ?_
      refine J_iload_n dX7_week_54 rfl ?_
      refine J_imul dX7_week_55 ?_
      refine J_iadd dX7_week_56 ?_
      refine J_iconst (2) dX7_week_57 rfl ?_
      refine J_iadd dX7_week_58 ?_
      refine J_iconst (0) dX7_week_59 rfl ?_
      refine J_iastore dX7_week_60 hM.a0 (jlin 111 5 i 2 141 (by omega) (by decide)) ?_
      refine J_iinc (y := 1) dX7_week_61 rfl rfl ?_
      refine J_goto (tgt := 37) dX7_week_64 (by decide) ?_
      refine J_eq (ls' := [.ref o, .int n, .int (nI (i + 1))]) (by rw [← nI_1]; rfl) ?_ (ih (i + 1) (by omega))
      rw [hix]
      rfl
set_option maxHeartbeats 4000000 in
theorem l1X7_week {S : jX} {I : jI} {o : Nat} {G : jG} (hM : jModel S o) {nb : Nat} (hn : nb ≤ 8) (hc : I (o + 1) 0 = nI nb) {n : Int32} (hnx : J G (4, 0, 0) mX7_week 25 [.ref o, .int n, .int (nI nb)] [] S (mGrow I o nb) 0 0) : ∀ (c i : Nat), i + c = nb → J G (4, 0, 0) mX7_week 4 [.ref o, .int n, .int (nI i)] [] S (mGrow I o i) 0 0 := by
  intro c
  induction c with
  | zero =>
    intro i hi
    have hi2 : i = nb := by omega
    subst hi2
    have hcc : (mGrow I o i) (o + 1) ((0 : Int32).toNatClampNeg) = nI i := ((jBo.growN hn).2 0 (by omega)).trans hc
    refine J_iload_n dX7_week_4 rfl ?_
    refine J_aload_n dX7_week_5 rfl rfl ?_
    refine J_getR dX7_week_6 flX7_7 rfl hM.1 hM.r0 ?_
    refine J_iconst (0) dX7_week_9 rfl ?_
    refine J_iaload dX7_week_10 hM.a0 (by unfold vp_in; decide) ?_
    refine J_icmp_ge (tgt := 25) dX7_week_11 (by decide) (fun h1 => ?_) (fun h1 => ?_)
    · skip
      exact hnx
    · skip
      exact absurd (by rw [hcc]; exact Int32.le_refl _) h1
  | succ c ih =>
    intro i hi
    have hcc : (mGrow I o i) (o + 1) ((0 : Int32).toNatClampNeg) = nI nb := ((jBo.growN (by omega)).2 0 (by omega)).trans hc
    refine J_iload_n dX7_week_4 rfl ?_
    refine J_aload_n dX7_week_5 rfl rfl ?_
    refine J_getR dX7_week_6 flX7_7 rfl hM.1 hM.r0 ?_
    refine J_iconst (0) dX7_week_9 rfl ?_
    refine J_iaload dX7_week_10 hM.a0 (by unfold vp_in; decide) ?_
    refine J_icmp_ge (tgt := 25) dX7_week_11 (by decide) (fun h1 => ?_) (fun h1 => ?_)
    · skip
      exact absurd h1 (by rw [hcc]; exact nI_ge (by omega) (by omega))
    · skip
      refine J_aload_n dX7_week_14 rfl rfl ?_
      refine J_iload_n dX7_week_15 rfl ?_
      refine J_cV1 (mc := mX7_grows) hM.1 (by decide) rfl dX7_week_16 mlX7_60 okX7_grows (kX7_grows S (mGrow I o i) o (nI i) hM ⟨i, by omega, rfl⟩) (Nat.le_of_ble_eq_true rfl) (Nat.le_of_ble_eq_true rfl) (Nat.le_of_ble_eq_true rfl) (Nat.le_of_ble_eq_true rfl) ?_
      refine J_iinc (y := 1) dX7_week_19 rfl rfl ?_
      refine J_goto (tgt := 4) dX7_week_22 (by decide) ?_
      refine J_eq (ls' := [.ref o, .int n, .int (nI (i + 1))]) (by rw [← nI_1]; rfl) rfl (ih (i + 1) (by omega))
set_option maxHeartbeats 4000000 in
theorem kX7_week (S : jX) (I : jI) (o : Nat) (hM : jModel S o) (hI : jMInv I o) : jM (4, 0, 0) mX7_week [.ref o] S I (jRes (some (.int (fX7_week I o).1)) S (fX7_week I o).2) := by
  refine jM.of (ls := [.ref o, .long 0, .long 0]) (by decide) (Nat.le_of_ble_eq_true rfl) (by intro v hv; simp only [List.mem_cons, List.not_mem_nil, or_false] at hv; rcases hv with rfl <;> rfl) rfl (fun G hR => ?_)
  obtain ⟨⟨nb, hn, hc⟩, ⟨m, hm, hc1⟩, -⟩ := hI
  have q0 : mCnt I o 0 = nb := by unfold mCnt; rw [hc]; exact nI_clamp (by omega)
  have q1 : mCnt I o 1 = m := by unfold mCnt; rw [hc1]; exact nI_clamp (by omega)
  refine J_iconst (0) dX7_week_0 rfl ?_
  refine J_istore_n dX7_week_1 (Nat.le_of_ble_eq_true rfl) ?_
  refine J_iconst (0) dX7_week_2 rfl ?_
  refine J_istore_n dX7_week_3 (Nat.le_of_ble_eq_true rfl) ?_
  refine l1X7_week hM hn hc ?_ nb 0 (by omega)
  refine J_aload_n dX7_week_25 rfl rfl ?_
  refine J_getR dX7_week_26 flX7_7 rfl hM.1 hM.r0 ?_
  refine J_iconst (2) dX7_week_29 rfl ?_
  refine J_dup2 dX7_week_30 rfl rfl ?_
  refine J_iaload dX7_week_31 hM.a0 (by unfold vp_in; decide) ?_
  refine J_iconst (1) dX7_week_32 rfl ?_
  refine J_iadd dX7_week_33 ?_
  refine J_iastore dX7_week_34 hM.a0 (by unfold vp_in; decide) ?_
  refine J_iconst (0) dX7_week_35 rfl ?_
  refine J_istore_n dX7_week_36 (Nat.le_of_ble_eq_true rfl) ?_
  refine l2X7_week hM hm ?_ ?_ m 0 (by omega)
  · show mNext (mGrow I o nb) o (o + 1) 1 = nI m
    simp only [mNext]
    rw [show ((2 : Int32).toNatClampNeg) = 2 from rfl]
    simp only [jset]
    rw [if_neg (by omega), (jBo.growN hn).2 1 (by omega), hc1]
  refine J_iconst (0) dX7_week_67 rfl ?_
  refine J_istore_n dX7_week_68 (Nat.le_of_ble_eq_true rfl) ?_
  refine l3X7_week hM (I := mInsp (mNext (mGrow I o nb) o) o m) hR hn ?_ ?_ nb 0 (by omega)
  · rw [mInsp_ne (Or.inr (fun j => by omega))]
    simp only [mNext]
    rw [show ((2 : Int32).toNatClampNeg) = 2 from rfl]
    simp only [jset]
    rw [if_neg (by omega), (jBo.growN hn).2 0 (by omega), hc]
  · show jRes _ _ _ _ _ _
    unfold fX7_week
    rw [q0, q1]
    exact ⟨rfl, rfl, rfl⟩
