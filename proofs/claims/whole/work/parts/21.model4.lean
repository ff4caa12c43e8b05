theorem fX7_week_keep {I : jI} {o : Nat} (hI : jMInv I o) : (∀ b, b ≠ o + 1 → (fX7_week I o).2 b = I b) ∧ ∀ k : Nat, (k < 15 ∨ 111 ≤ k) → k ≠ 2 → k ≠ 3 → (∀ j, k ≠ 111 + 5 * j + 2) → (fX7_week I o).2 (o + 1) k = I (o + 1) k := by
  obtain ⟨⟨nb, hn, hc⟩, ⟨m, hm, hc1⟩, -⟩ := hI
  have q0 : mCnt I o 0 = nb := by unfold mCnt; rw [hc]; exact nI_clamp (by omega)
  unfold fX7_week
  rw [q0]
  refine ⟨fun b hb => ?_, fun k hk h2 h3 hj => ?_⟩
  · funext k
    show jset _ (o + 1) _ _ b k = _
    simp only [jset, hb, false_and, if_false]
    rw [(jBo.wbN hn).1 b hb, mInsp_ne (Or.inl hb)]
    simp only [mNext, jset, hb, false_and, if_false]
    rw [(jBo.growN hn).1 b hb]
  · show jset _ (o + 1) _ _ (o + 1) k = _
    have e3 : ¬ k = (3 : Int32).toNatClampNeg := h3
    have e2 : ¬ k = (2 : Int32).toNatClampNeg := h2
    simp only [jset, e3, and_false, if_false]
    rw [(jBo.wbN hn).2 k hk, mInsp_ne (Or.inr hj)]
    simp only [mNext, jset, e2, and_false, if_false]
    rw [(jBo.growN hn).2 k hk]
theorem fX7_week_inv {I : jI} {o : Nat} (hI : jMInv I o) : jMInv (fX7_week I o).2 o := by
  have hk := (fX7_week_keep hI).2
  obtain ⟨h1, h2, h3⟩ := hI
  refine ⟨?_, ?_, fun j hj => ?_⟩
  · rw [hk 0 (by omega) (by omega) (by omega) (by omega)]; exact h1
  · rw [hk 1 (by omega) (by omega) (by omega) (by omega)]; exact h2
  · rw [hk (111 + 5 * j) (by omega) (by omega) (by omega) (by omega)]; exact h3 j hj
def mPassN (I : jI) (o : Nat) : Nat → Int32 × jI
  | 0 => (0, I)
  | k + 1 => ((mPassN I o k).1 + (fX7_week (mPassN I o k).2 o).1, (fX7_week (mPassN I o k).2 o).2)
theorem mPassN_inv {I : jI} {o : Nat} (hI : jMInv I o) : ∀ k, jMInv (mPassN I o k).2 o
  | 0 => hI
  | k + 1 => fX7_week_inv (mPassN_inv hI k)
def fX7_passes (I : jI) (o : Nat) (x : Int32) : Int32 × jI :=
  if (fX7_in I x 1 60) = 0 then ((-2000000001), I)
  else if ((I (o + 1) ((2 : Int32).toNatClampNeg)) + x) ≤ 9999 then mPassN I o x.toNatClampNeg else ((-2000000003), I)
theorem jin60 {I : jI} {x : Int32} (h : ¬ fX7_in I x 1 60 = 0) : ∃ m : Nat, 1 ≤ m ∧ m ≤ 60 ∧ x = nI m := by
  obtain ⟨h1, h2⟩ := jinT h
  obtain ⟨j, hj, rfl⟩ := nI_of (Int32.not_lt.mpr (Int32.le_trans (show (0 : Int32) ≤ 1 by decide) h1))
  have h3 : nI j ≤ nI 60 := h2
  have h4 : nI 1 ≤ nI j := h1
  rw [nI_leI hj (by decide)] at h3
  rw [nI_leI (by decide) hj] at h4
  exact ⟨j, h4, h3, rfl⟩
set_option maxHeartbeats 4000000 in
theorem lX7_passes {S : jX} {I : jI} {o : Nat} {G : jG} {Φ : Option Value → jX → jI → Prop} (hM : jModel S o) (hI : jMInv I o) (hR : jR G (5, 0, 0) Φ) {m : Nat} (hm : m ≤ 60) (hΦ : Φ (some (.int (mPassN I o m).1)) S (mPassN I o m).2) : ∀ (c i : Nat), i + c = m → J G (5, 0, 0) mX7_passes 34 [.ref o, .int (nI m), .int (mPassN I o i).1, .int (nI i)] [] S (mPassN I o i).2 0 0 := by
  intro c
  induction c with
  | zero =>
    intro i hi
    have hi2 : i = m := by omega
    subst hi2
    refine J_iload_n dX7_passes_34 rfl ?_
    refine J_iload_n dX7_passes_35 rfl ?_
    refine J_icmp_ge (tgt := 52) dX7_passes_36 (by decide) (fun h1 => ?_) (fun h1 => ?_)
    · skip
      refine J_iload_n dX7_passes_52 rfl ?_
      exact J_iret (ty := .int) hR dX7_passes_53 rfl rfl (Nat.le_of_ble_eq_true rfl) (Nat.le_of_ble_eq_true rfl) hΦ
    · skip
      exact absurd (Int32.le_refl _) h1
  | succ c ih =>
    intro i hi
    refine J_iload_n dX7_passes_34 rfl ?_
    refine J_iload_n dX7_passes_35 rfl ?_
    refine J_icmp_ge (tgt := 52) dX7_passes_36 (by decide) (fun h1 => ?_) (fun h1 => ?_)
    · skip
      exact absurd h1 (nI_ge (by omega) (by omega))
    · skip
      refine J_iload_n dX7_passes_39 rfl ?_
      refine J_aload_n dX7_passes_40 rfl rfl ?_
      refine J_cV0r (mc := mX7_week) hM.1 (by decide) rfl dX7_passes_41 mlX7_93 okX7_week (kX7_week S ((mPassN I o i).2) o hM (mPassN_inv hI i)) (Nat.le_of_ble_eq_true rfl) (Nat.le_of_ble_eq_true rfl) (Nat.le_of_ble_eq_true rfl) (Nat.le_of_ble_eq_true rfl) ?_
      refine J_iadd dX7_passes_44 ?_
      refine J_istore_n dX7_passes_45 (Nat.le_of_ble_eq_true rfl) ?_
      refine J_iinc (y := 1) dX7_passes_46 rfl rfl ?_
      refine J_goto (tgt := 34) dX7_passes_49 (by decide) ?_
      refine J_eq (ls' := [.ref o, .int (nI m), .int (mPassN I o (i + 1)).1, .int (nI (i + 1))]) (by rw [← nI_1]; rfl) rfl (ih (i + 1) (by omega))
set_option maxRecDepth 100000 in
set_option maxHeartbeats 4000000 in
theorem kX7_passes (S : jX) (I : jI) (o : Nat) (x : Int32) (hM : jModel S o) (hI : jMInv I o) : jM (5, 0, 0) mX7_passes [.ref o, .int x] S I (jRes (some (.int (fX7_passes I o x).1)) S (fX7_passes I o x).2) := by
  refine jM.of (ls := [.ref o, .int x, .long 0, .long 0]) (by decide) (Nat.le_of_ble_eq_true rfl) (by intro v hv; simp only [List.mem_cons, List.not_mem_nil, or_false] at hv; rcases hv with rfl | rfl <;> rfl) rfl (fun G hR => ?_)
  refine J_iload_n dX7_passes_0 rfl ?_
  refine J_iconst (1) dX7_passes_1 rfl ?_
  refine J_bipush (60) dX7_passes_2 rfl ?_
  refine J_cS3r (mc := mX7_in) dX7_passes_4 mlX7_30 okX7_in (kX7_in S I x 1 60 ) (Nat.le_of_ble_eq_true rfl) (Nat.le_of_ble_eq_true rfl) (Nat.le_of_ble_eq_true rfl) (Nat.le_of_ble_eq_true rfl) ?_
  refine J_if_ne (tgt := 13) dX7_passes_7 (by decide) (fun h1 => ?_) (fun h1 => ?_)
  · skip
    refine J_aload_n dX7_passes_13 rfl rfl ?_
    refine J_getR dX7_passes_14 flX7_7 rfl hM.1 hM.r0 ?_
    refine J_iconst (2) dX7_passes_17 rfl ?_
    refine J_iaload dX7_passes_18 hM.a0 (by unfold vp_in; decide) ?_
    refine J_iload_n dX7_passes_19 rfl ?_
    refine J_iadd dX7_passes_20 ?_
    refine J_sipush (9999) dX7_passes_21 rfl ?_
    refine J_icmp_le (tgt := 30) dX7_passes_24 (by decide) (fun h2 => ?_) (fun h2 => ?_)
    · skip
      refine J_iconst (0) dX7_passes_30 rfl ?_
      refine J_istore_n dX7_passes_31 (Nat.le_of_ble_eq_true rfl) ?_
      refine J_iconst (0) dX7_passes_32 rfl ?_
      refine J_istore_n dX7_passes_33 (Nat.le_of_ble_eq_true rfl) ?_
      obtain ⟨m, hm1, hm, rfl⟩ := jin60 h1
      exact lX7_passes hM hI hR hm (by unfold fX7_passes; simp only [if_neg h1, if_pos h2, nI_clamp (show m < 2 ^ 31 by omega)]; exact ⟨rfl, rfl, rfl⟩) m 0 (by omega)
    · skip
      refine J_ldc (-2000000003) dX7_passes_27 jw_761 ?_
      exact J_iret (ty := .int) hR dX7_passes_29 rfl rfl (Nat.le_of_ble_eq_true rfl) (Nat.le_of_ble_eq_true rfl) (jRes_f (by first | (simp only [fX7_passes, if_neg h1, if_neg h2]; done) | rfl | (simp only [fX7_passes, if_neg h1, if_neg h2]; rfl)))
  · skip
    refine J_ldc (-2000000001) dX7_passes_10 jw_760 ?_
    exact J_iret (ty := .int) hR dX7_passes_12 rfl rfl (Nat.le_of_ble_eq_true rfl) (Nat.le_of_ble_eq_true rfl) (jRes_f (by first | (simp only [fX7_passes, if_pos h1]; done) | rfl | (simp only [fX7_passes, if_pos h1]; rfl)))
def mFirst (I : jI) (o : Nat) : Nat → Int32
  | 0 => (-1)
  | k + 1 => if (fX7_of I o (nI k) 3) = 1 then (if mFirst I o k < 0 then nI k else if (fX7_of I o (mFirst I o k) 11) ≤ (fX7_of I o (nI k) 11) then mFirst I o k else nI k) else mFirst I o k
theorem mFirst_b {I : jI} {o : Nat} : ∀ k, k ≤ 8 → mFirst I o k = (-1) ∨ ∃ j, j < k ∧ mFirst I o k = nI j
  | 0, _ => Or.inl rfl
  | k + 1, h => by
    have ih := mFirst_b (I := I) (o := o) k (by omega)
    have up : mFirst I o k = (-1) ∨ ∃ j, j < k + 1 ∧ mFirst I o k = nI j := ih.imp id (fun ⟨j, h1, h2⟩ => ⟨j, by omega, h2⟩)
    unfold mFirst
    repeat' split
    · exact Or.inr ⟨k, by omega, rfl⟩
    · exact up
    · exact Or.inr ⟨k, by omega, rfl⟩
    · exact up
theorem mFirst_8 {I : jI} {o k : Nat} (hk : k ≤ 8) (h : ¬ mFirst I o k < 0) : jB8 (mFirst I o k) := by
  rcases mFirst_b (I := I) (o := o) k hk with e | ⟨j, hj, e⟩
  · rw [e] at h; exact absurd (by decide) h
  · exact ⟨j, by omega, e⟩
theorem mFirst_8' {I : jI} {o k : Nat} (hk : k ≤ 8) (h : 0 ≤ mFirst I o k) : jB8 (mFirst I o k) := mFirst_8 hk (Int32.not_lt.mpr h)
def fX7_first (I : jI) (o : Nat) (x : Int32) : Int32 :=
  if (fX7_in I x 0 1) = 0 then (-2000000001)
  else if 0 ≤ mFirst I o (mCnt I o 0) then (if x = 0 then mFirst I o (mCnt I o 0) else fX7_of I o (mFirst I o (mCnt I o 0)) 11) else (-2000000004)
set_option maxHeartbeats 4000000 in
theorem lX7_first {S : jX} {I : jI} {o : Nat} {G : jG} (hM : jModel S o) {x : Int32} {nb : Nat} (hn : nb ≤ 8) (hc : I (o + 1) 0 = nI nb) (hnx : ∀ v9 : Value, J G (1, 0, 0) mX7_first 81 [.ref o, .int x, .int (mFirst I o nb), .int (nI nb), v9] [] S I 0 0) : ∀ (c i : Nat), i + c = nb → ∀ v9 : Value, J G (1, 0, 0) mX7_first 16 [.ref o, .int x, .int (mFirst I o i), .int (nI i), v9] [] S I 0 0 := by
  intro c
  induction c with
  | zero =>
    intro i hi v9
    have hi2 : i = nb := by omega
    subst hi2
    have hcc : I (o + 1) ((0 : Int32).toNatClampNeg) = nI i := hc
    refine J_iload_n dX7_first_16 rfl ?_
    refine J_aload_n dX7_first_17 rfl rfl ?_
    refine J_getR dX7_first_18 flX7_7 rfl hM.1 hM.r0 ?_
    refine J_iconst (0) dX7_first_21 rfl ?_
    refine J_iaload dX7_first_22 hM.a0 (by unfold vp_in; decide) ?_
    refine J_icmp_ge (tgt := 81) dX7_first_23 (by decide) (fun h1 => ?_) (fun h1 => ?_)
    · skip
      exact hnx v9
    · skip
      exact absurd (by rw [hcc]; exact Int32.le_refl _) h1
  | succ c ih =>
    intro i hi v9
    have hcc : I (o + 1) ((0 : Int32).toNatClampNeg) = nI nb := hc
    refine J_iload_n dX7_first_16 rfl ?_
    refine J_aload_n dX7_first_17 rfl rfl ?_
    refine J_getR dX7_first_18 flX7_7 rfl hM.1 hM.r0 ?_
    refine J_iconst (0) dX7_first_21 rfl ?_
    refine J_iaload dX7_first_22 hM.a0 (by unfold vp_in; decide) ?_
    refine J_icmp_ge (tgt := 81) dX7_first_23 (by decide) (fun h1 => ?_) (fun h1 => ?_)
    · skip
      exact absurd h1 (by rw [hcc]; exact nI_ge (by omega) (by omega))
    · skip
      refine J_aload_n dX7_first_26 rfl rfl ?_
      refine J_iload_n dX7_first_27 rfl ?_
      refine J_iconst (3) dX7_first_28 rfl ?_
      refine J_cV2r (mc := mX7_of) hM.1 (by decide) rfl dX7_first_29 mlX7_34 okX7_of (kX7_of S I o (nI i) 3 hM (jofv ⟨i, by omega, rfl⟩ (k := 3) rfl (by decide))) (Nat.le_of_ble_eq_true rfl) (Nat.le_of_ble_eq_true rfl) (Nat.le_of_ble_eq_true rfl) (Nat.le_of_ble_eq_true rfl) ?_
      refine J_iconst (1) dX7_first_32 rfl ?_
      refine J_icmp_ne (tgt := 40) dX7_first_33 (by decide) (fun h2 => ?_) (fun h2 => ?_)
      · skip
        refine J_iconst (0) dX7_first_40 rfl ?_
        refine J_istore dX7_first_41 (Nat.le_of_ble_eq_true rfl) ?_
        refine J_iload dX7_first_43 rfl ?_
        refine J_if_eq (tgt := 73) dX7_first_45 (by decide) (fun h3 => ?_) (fun h3 => ?_)
        · skip
          refine J_iload_n dX7_first_73 rfl ?_
          refine J_istore_n dX7_first_74 (Nat.le_of_ble_eq_true rfl) ?_
          refine J_iinc (y := 1) dX7_first_75 rfl rfl ?_
          refine J_goto (tgt := 16) dX7_first_78 (by decide) ?_
          refine J_eq (ls' := [.ref o, .int x, .int (mFirst I o (i + 1)), .int (nI (i + 1)), .int 0]) (by rw [← nI_1]; simp only [mFirst, if_neg h1, if_neg h2]; rfl) rfl (ih (i + 1) (by omega) _)
        · skip
          exact absurd h3 (by decide)
      · skip
        refine J_iconst (1) dX7_first_36 rfl ?_
        refine J_goto (tgt := 41) dX7_first_37 (by decide) ?_
        refine J_istore dX7_first_41 (Nat.le_of_ble_eq_true rfl) ?_
        refine J_iload dX7_first_43 rfl ?_
        refine J_if_eq (tgt := 73) dX7_first_45 (by decide) (fun h4 => ?_) (fun h4 => ?_)
        · skip
          exact absurd h4 (by decide)
        · skip
          refine J_iload_n dX7_first_48 rfl ?_
          refine J_if_lt (tgt := 69) dX7_first_49 (by decide) (fun h5 => ?_) (fun h5 => ?_)
          · skip
            refine J_iload_n dX7_first_69 rfl ?_
            refine J_goto (tgt := 74) dX7_first_70 (by decide) ?_
            refine J_istore_n dX7_first_74 (Nat.le_of_ble_eq_true rfl) ?_
            refine J_iinc (y := 1) dX7_first_75 rfl rfl ?_
            refine J_goto (tgt := 16) dX7_first_78 (by decide) ?_
            refine J_eq (ls' := [.ref o, .int x, .int (mFirst I o (i + 1)), .int (nI (i + 1)), .int 1]) (by rw [← nI_1]; simp only [mFirst, if_neg h1, if_pos h2, if_pos h5]; rfl) rfl (ih (i + 1) (by omega) _)
          · skip
            refine J_aload_n dX7_first_52 rfl rfl ?_
            refine J_iload_n dX7_first_53 rfl ?_
            refine J_bipush (11) dX7_first_54 rfl ?_
            refine J_cV2r (mc := mX7_of) hM.1 (by decide) rfl dX7_first_56 mlX7_34 okX7_of (kX7_of S I o (nI i) 11 hM (jofv ⟨i, by omega, rfl⟩ (k := 11) rfl (by decide))) (Nat.le_of_ble_eq_true rfl) (Nat.le_of_ble_eq_true rfl) (Nat.le_of_ble_eq_true rfl) (Nat.le_of_ble_eq_true rfl) ?_
            refine J_aload_n dX7_first_59 rfl rfl ?_
            refine J_iload_n dX7_first_60 rfl ?_
            refine J_bipush (11) dX7_first_61 rfl ?_
            refine J_cV2r (mc := mX7_of) hM.1 (by decide) rfl dX7_first_63 mlX7_34 okX7_of (kX7_of S I o (mFirst I o i) 11 hM (jofv (mFirst_8 (by omega) h5) (k := 11) rfl (by decide))) (Nat.le_of_ble_eq_true rfl) (Nat.le_of_ble_eq_true rfl) (Nat.le_of_ble_eq_true rfl) (Nat.le_of_ble_eq_true rfl) ?_
            refine J_icmp_ge (tgt := 73) dX7_first_66 (by decide) (fun h6 => ?_) (fun h6 => ?_)
            · skip
              refine J_iload_n dX7_first_73 rfl ?_
              refine J_istore_n dX7_first_74 (Nat.le_of_ble_eq_true rfl) ?_
              refine J_iinc (y := 1) dX7_first_75 rfl rfl ?_
              refine J_goto (tgt := 16) dX7_first_78 (by decide) ?_
              refine J_eq (ls' := [.ref o, .int x, .int (mFirst I o (i + 1)), .int (nI (i + 1)), .int 1]) (by rw [← nI_1]; simp only [mFirst, if_neg h1, if_pos h2, if_neg h5, if_pos h6]; rfl) rfl (ih (i + 1) (by omega) _)
            · skip
              refine J_iload_n dX7_first_69 rfl ?_
              refine J_goto (tgt := 74) dX7_first_70 (by decide) ?_
              refine J_istore_n dX7_first_74 (Nat.le_of_ble_eq_true rfl) ?_
              refine J_iinc (y := 1) dX7_first_75 rfl rfl ?_
              refine J_goto (tgt := 16) dX7_first_78 (by decide) ?_
              refine J_eq (ls' := [.ref o, .int x, .int (mFirst I o (i + 1)), .int (nI (i + 1)), .int 1]) (by rw [← nI_1]; simp only [mFirst, if_neg h1, if_pos h2, if_neg h5, if_neg h6]; rfl) rfl (ih (i + 1) (by omega) _)
set_option maxRecDepth 100000 in
set_option maxHeartbeats 4000000 in
theorem kX7_first (S : jX) (I : jI) (o : Nat) (x : Int32) (hM : jModel S o) (hI : jMInv I o) : jM (1, 0, 0) mX7_first [.ref o, .int x] S I (jRes (some (.int (fX7_first I o x))) S I) := by
  refine jM.of (ls := [.ref o, .int x, .long 0, .long 0, .long 0]) (by decide) (Nat.le_of_ble_eq_true rfl) (by intro v hv; simp only [List.mem_cons, List.not_mem_nil, or_false] at hv; rcases hv with rfl | rfl <;> rfl) rfl (fun G hR => ?_)
  refine J_iload_n dX7_first_0 rfl ?_
  refine J_iconst (0) dX7_first_1 rfl ?_
  refine J_iconst (1) dX7_first_2 rfl ?_
  refine J_cS3r (mc := mX7_in) dX7_first_3 mlX7_30 okX7_in (kX7_in S I x 0 1 ) (Nat.le_of_ble_eq_true rfl) (Nat.le_of_ble_eq_true rfl) (Nat.le_of_ble_eq_true rfl) (Nat.le_of_ble_eq_true rfl) ?_
  refine J_if_ne (tgt := 12) dX7_first_6 (by decide) (fun h1 => ?_) (fun h1 => ?_)
  · skip
    refine J_iconst (-1) dX7_first_12 rfl ?_
    refine J_istore_n dX7_first_13 (Nat.le_of_ble_eq_true rfl) ?_
    refine J_iconst (0) dX7_first_14 rfl ?_
    refine J_istore_n dX7_first_15 (Nat.le_of_ble_eq_true rfl) ?_
    obtain ⟨nb, hn, hc⟩ := hI.1
    have q0 : mCnt I o 0 = nb := by unfold mCnt; rw [hc]; exact nI_clamp (by omega)
    refine lX7_first hM hn hc (fun v9 => ?_) nb 0 (by omega) _
    refine J_iload_n dX7_first_81 rfl ?_
    refine J_if_ge (tgt := 90) dX7_first_82 (by decide) (fun h51 => ?_) (fun h51 => ?_)
    · skip
      refine J_iload_n dX7_first_90 rfl ?_
      refine J_if_ne (tgt := 98) dX7_first_91 (by decide) (fun h52 => ?_) (fun h52 => ?_)
      · skip
        refine J_aload_n dX7_first_98 rfl rfl ?_
        refine J_iload_n dX7_first_99 rfl ?_
        refine J_bipush (11) dX7_first_100 rfl ?_
        refine J_cV2r (mc := mX7_of) hM.1 (by decide) rfl dX7_first_102 mlX7_34 okX7_of (kX7_of S I o (mFirst I o nb) 11 hM (jofv (mFirst_8' hn h51) (k := 11) rfl (by decide))) (Nat.le_of_ble_eq_true rfl) (Nat.le_of_ble_eq_true rfl) (Nat.le_of_ble_eq_true rfl) (Nat.le_of_ble_eq_true rfl) ?_
        exact J_iret (ty := .int) hR dX7_first_105 rfl rfl (Nat.le_of_ble_eq_true rfl) (Nat.le_of_ble_eq_true rfl) (jRes_i (by first | (simp only [fX7_first, if_neg h1, q0, if_pos h51, if_neg h52]; done) | rfl | (simp only [fX7_first, if_neg h1, q0, if_pos h51, if_neg h52]; rfl)) rfl)
      · skip
        refine J_iload_n dX7_first_94 rfl ?_
        refine J_goto (tgt := 105) dX7_first_95 (by decide) ?_
        exact J_iret (ty := .int) hR dX7_first_105 rfl rfl (Nat.le_of_ble_eq_true rfl) (Nat.le_of_ble_eq_true rfl) (jRes_i (by first | (simp only [fX7_first, if_neg h1, q0, if_pos h51, if_pos h52]; done) | rfl | (simp only [fX7_first, if_neg h1, q0, if_pos h51, if_pos h52]; rfl)) rfl)
    · skip
      refine J_ldc (-2000000004) dX7_first_85 jw_903 ?_
      refine J_goto (tgt := 105) dX7_first_87 (by decide) ?_
      exact J_iret (ty := .int) hR dX7_first_105 rfl rfl (Nat.le_of_ble_eq_true rfl) (Nat.le_of_ble_eq_true rfl) (jRes_i (by first | (simp only [fX7_first, if_neg h1, q0, if_neg h51]; done) | rfl | (simp only [fX7_first, if_neg h1, q0, if_neg h51]; rfl)) rfl)
  · skip
    refine J_ldc (-2000000001) dX7_first_9 jw_760 ?_
    exact J_iret (ty := .int) hR dX7_first_11 rfl rfl (Nat.le_of_ble_eq_true rfl) (Nat.le_of_ble_eq_true rfl) (jRes_i (by first | (simp only [fX7_first, if_pos h1]; done) | rfl | (simp only [fX7_first, if_pos h1]; rfl)) rfl)
def mIs (I : jI) (o : Nat) (how b : Int32) : Int32 :=
  if how = 3 then (if (fX7_of I o b 3) = 1 then 1 else 0)
  else if how = 4 then (if (fX7_of I o b 3) = 2 then 1 else 0)
  else if how = 5 then (if (fX7_of I o b 6) = 1 then 1 else 0)
  else if how = 6 then fX7_hasPaper I o b
  else if fX7_whyNotFired I o b = 0 then 1 else 0
def mSet (I : jI) (o : Nat) (how : Int32) : Nat → Int32
  | 0 => 0
  | k + 1 => mSet I o how k ||| (if mIs I o how (nI k) = 0 then (0 : Int32) else (1 : Int32) <<< (nI k &&& 31))
def fX7_set0 (I : jI) (o : Nat) (x : Int32) : Int32 := mSet I o x (mCnt I o 0)
set_option maxHeartbeats 4000000 in
theorem lX7_set0 {S : jX} {I : jI} {o : Nat} {G : jG} {Φ : Option Value → jX → jI → Prop} (hM : jModel S o) {x : Int32} (hR : jR G (3, 0, 0) Φ) {nb : Nat} (hn : nb ≤ 8) (hc : I (o + 1) 0 = nI nb) (hΦ : Φ (some (.int (mSet I o x nb))) S I) : ∀ (c i : Nat), i + c = nb → ∀ v9 : Value, J G (3, 0, 0) mX7_set0 4 [.ref o, .int x, .int (mSet I o x i), .int (nI i), v9] [] S I 0 0 := by
  intro c
  induction c with
  | zero =>
    intro i hi v9
    have hi2 : i = nb := by omega
    subst hi2
    have hcc : I (o + 1) ((0 : Int32).toNatClampNeg) = nI i := hc
    refine J_iload_n dX7_set0_4 rfl ?_
    refine J_aload_n dX7_set0_5 rfl rfl ?_
    refine J_getR dX7_set0_6 flX7_7 rfl hM.1 hM.r0 ?_
    refine J_iconst (0) dX7_set0_9 rfl ?_
    refine J_iaload dX7_set0_10 hM.a0 (by unfold vp_in; decide) ?_
    refine J_icmp_ge (tgt := 134) dX7_set0_11 (by decide) (fun h1 => ?_) (fun h1 => ?_)
    · skip
      refine J_iload_n dX7_set0_134 rfl ?_
      exact J_iret (ty := .int) hR dX7_set0_135 rfl rfl (Nat.le_of_ble_eq_true rfl) (Nat.le_of_ble_eq_true rfl) hΦ
    · skip
      exact absurd (by rw [hcc]; exact Int32.le_refl _) h1
  | succ c ih =>
    intro i hi v9
    have hcc : I (o + 1) ((0 : Int32).toNatClampNeg) = nI nb := hc
    have hbody : ∀ z : Int32, mIs I o x (nI i) = z → J G (3, 0, 0) mX7_set0 113 [.ref o, .int x, .int (mSet I o x i), .int (nI i), .int z] [] S I 0 0 := by
      intro z hz
      refine J_iload_n dX7_set0_113 rfl ?_
      refine J_iload dX7_set0_114 rfl ?_
      refine J_if_eq (tgt := 125) dX7_set0_116 (by decide) (fun h1 => ?_) (fun h1 => ?_)
      · skip
        refine J_iconst (0) dX7_set0_125 rfl ?_
        refine J_ior dX7_set0_126 ?_
        refine J_istore_n dX7_set0_127 (Nat.le_of_ble_eq_true rfl) ?_
        refine J_iinc (y := 1) dX7_set0_128 rfl rfl ?_
        refine J_goto (tgt := 4) dX7_set0_131 (by decide) ?_
        refine J_eq (ls' := [.ref o, .int x, .int (mSet I o x (i + 1)), .int (nI (i + 1)), .int z]) (by rw [← nI_1]; rw [← hz] at *; simp only [mSet, if_pos h1]; rfl) rfl (ih (i + 1) (by omega) _)
      · skip
        refine J_iconst (1) dX7_set0_119 rfl ?_
        refine J_iload_n dX7_set0_120 rfl ?_
        refine J_ishl dX7_set0_121 ?_
        refine J_goto (tgt := 126) dX7_set0_122 (by decide) ?_
        refine J_ior dX7_set0_126 ?_
        refine J_istore_n dX7_set0_127 (Nat.le_of_ble_eq_true rfl) ?_
        refine J_iinc (y := 1) dX7_set0_128 rfl rfl ?_
        refine J_goto (tgt := 4) dX7_set0_131 (by decide) ?_
        refine J_eq (ls' := [.ref o, .int x, .int (mSet I o x (i + 1)), .int (nI (i + 1)), .int z]) (by rw [← nI_1]; rw [← hz] at *; simp only [mSet, if_neg h1]; rfl) rfl (ih (i + 1) (by omega) _)
    refine J_iload_n dX7_set0_4 rfl ?_
    refine J_aload_n dX7_set0_5 rfl rfl ?_
    refine J_getR dX7_set0_6 flX7_7 rfl hM.1 hM.r0 ?_
    refine J_iconst (0) dX7_set0_9 rfl ?_
    refine J_iaload dX7_set0_10 hM.a0 (by unfold vp_in; decide) ?_
    refine J_icmp_ge (tgt := 134) dX7_set0_11 (by decide) (fun h1 => ?_) (fun h1 => ?_)
    · skip
      exact absurd h1 (by rw [hcc]; exact nI_ge (by omega) (by omega))
    · skip
      refine J_iload_n dX7_set0_14 rfl ?_
      refine J_iconst (3) dX7_set0_15 rfl ?_
      refine J_icmp_ne (tgt := 37) dX7_set0_16 (by decide) (fun h2 => ?_) (fun h2 => ?_)
      · skip
        refine J_iload_n dX7_set0_37 rfl ?_
        refine J_iconst (4) dX7_set0_38 rfl ?_
        refine J_icmp_ne (tgt := 60) dX7_set0_39 (by decide) (fun h3 => ?_) (fun h3 => ?_)
        · skip
          refine J_iload_n dX7_set0_60 rfl ?_
          refine J_iconst (5) dX7_set0_61 rfl ?_
          refine J_icmp_ne (tgt := 84) dX7_set0_62 (by decide) (fun h4 => ?_) (fun h4 => ?_)
          · skip
            refine J_iload_n dX7_set0_84 rfl ?_
            refine J_bipush (6) dX7_set0_85 rfl ?_
            refine J_icmp_ne (tgt := 98) dX7_set0_87 (by decide) (fun h5 => ?_) (fun h5 => ?_)
            · skip
              refine J_aload_n dX7_set0_98 rfl rfl ?_
              refine J_iload_n dX7_set0_99 rfl ?_
              refine J_cV1r (mc := mX7_whyNotFired) hM.1 (by decide) rfl dX7_set0_100 mlX7_90 okX7_whyNotFired (kX7_whyNotFired S I o (nI i) hM ⟨i, by omega, rfl⟩) (Nat.le_of_ble_eq_true rfl) (Nat.le_of_ble_eq_true rfl) (Nat.le_of_ble_eq_true rfl) (Nat.le_of_ble_eq_true rfl) ?_
              refine J_if_ne (tgt := 110) dX7_set0_103 (by decide) (fun h6 => ?_) (fun h6 => ?_)
              · skip
                refine J_iconst (0) dX7_set0_110 rfl ?_
                refine J_istore dX7_set0_111 (Nat.le_of_ble_eq_true rfl) ?_
                exact hbody _ (by simp only [mIs, if_neg h1, if_neg h2, if_neg h3, if_neg h4, if_neg h5, if_neg h6])
              · skip
                refine J_iconst (1) dX7_set0_106 rfl ?_
                refine J_goto (tgt := 111) dX7_set0_107 (by decide) ?_
                refine J_istore dX7_set0_111 (Nat.le_of_ble_eq_true rfl) ?_
                exact hbody _ (by simp only [mIs, if_neg h1, if_neg h2, if_neg h3, if_neg h4, if_neg h5, if_pos h6])
            · skip
              refine J_aload_n dX7_set0_90 rfl rfl ?_
              refine J_iload_n dX7_set0_91 rfl ?_
              refine J_cV1r (mc := mX7_hasPaper) hM.1 (by decide) rfl dX7_set0_92 mlX7_46 okX7_hasPaper (kX7_hasPaper S I o (nI i) hM ⟨i, by omega, rfl⟩) (Nat.le_of_ble_eq_true rfl) (Nat.le_of_ble_eq_true rfl) (Nat.le_of_ble_eq_true rfl) (Nat.le_of_ble_eq_true rfl) ?_
              refine J_goto (tgt := 111) dX7_set0_95 (by decide) ?_
              refine J_istore dX7_set0_111 (Nat.le_of_ble_eq_true rfl) ?_
              exact hbody _ (by simp only [mIs, if_neg h1, if_neg h2, if_neg h3, if_neg h4, if_pos h5])
          · skip
            refine J_aload_n dX7_set0_65 rfl rfl ?_
            refine J_iload_n dX7_set0_66 rfl ?_
            refine J_bipush (6) dX7_set0_67 rfl ?_
            refine J_cV2r (mc := mX7_of) hM.1 (by decide) rfl dX7_set0_69 mlX7_34 okX7_of (kX7_of S I o (nI i) 6 hM (jofv ⟨i, by omega, rfl⟩ (k := 6) rfl (by decide))) (Nat.le_of_ble_eq_true rfl) (Nat.le_of_ble_eq_true rfl) (Nat.le_of_ble_eq_true rfl) (Nat.le_of_ble_eq_true rfl) ?_
            refine J_iconst (1) dX7_set0_72 rfl ?_
            refine J_icmp_ne (tgt := 80) dX7_set0_73 (by decide) (fun h7 => ?_) (fun h7 => ?_)
            · skip
              refine J_iconst (0) dX7_set0_80 rfl ?_
              refine J_goto (tgt := 111) dX7_set0_81 (by decide) ?_
              refine J_istore dX7_set0_111 (Nat.le_of_ble_eq_true rfl) ?_
              exact hbody _ (by simp only [mIs, if_neg h1, if_neg h2, if_neg h3, if_pos h4, if_neg h7])
            · skip
              refine J_iconst (1) dX7_set0_76 rfl ?_
              refine J_goto (tgt := 111) dX7_set0_77 (by decide) ?_
              refine J_istore dX7_set0_111 (Nat.le_of_ble_eq_true rfl) ?_
              exact hbody _ (by simp only [mIs, if_neg h1, if_neg h2, if_neg h3, if_pos h4, if_pos h7])
        · skip
          refine J_aload_n dX7_set0_42 rfl rfl ?_
          refine J_iload_n dX7_set0_43 rfl ?_
          refine J_iconst (3) dX7_set0_44 rfl ?_
          refine J_cV2r (mc := mX7_of) hM.1 (by decide) rfl dX7_set0_45 mlX7_34 okX7_of (kX7_of S I o (nI i) 3 hM (jofv ⟨i, by omega, rfl⟩ (k := 3) rfl (by decide))) (Nat.le_of_ble_eq_true rfl) (Nat.le_of_ble_eq_true rfl) (Nat.le_of_ble_eq_true rfl) (Nat.le_of_ble_eq_true rfl) ?_
          refine J_iconst (2) dX7_set0_48 rfl ?_
          refine J_icmp_ne (tgt := 56) dX7_set0_49 (by decide) (fun h8 => ?_) (fun h8 => ?_)
          · skip
            refine J_iconst (0) dX7_set0_56 rfl ?_
            refine J_goto (tgt := 111) dX7_set0_57 (by decide) ?_
            refine J_istore dX7_set0_111 (Nat.le_of_ble_eq_true rfl) ?_
            exact hbody _ (by simp only [mIs, if_neg h1, if_neg h2, if_pos h3, if_neg h8])
          · skip
            refine J_iconst (1) dX7_set0_52 rfl ?_
            refine J_goto (tgt := 111) dX7_set0_53 (by decide) ?_
            refine J_istore dX7_set0_111 (Nat.le_of_ble_eq_true rfl) ?_
            exact hbody _ (by simp only [mIs, if_neg h1, if_neg h2, if_pos h3, if_pos h8])
      · skip
        refine J_aload_n dX7_set0_19 rfl rfl ?_
        refine J_iload_n dX7_set0_20 rfl ?_
        refine J_iconst (3) dX7_set0_21 rfl ?_
        refine J_cV2r (mc := mX7_of) hM.1 (by decide) rfl dX7_set0_22 mlX7_34 okX7_of (kX7_of S I o (nI i) 3 hM (jofv ⟨i, by omega, rfl⟩ (k := 3) rfl (by decide))) (Nat.le_of_ble_eq_true rfl) (Nat.le_of_ble_eq_true rfl) (Nat.le_of_ble_eq_true rfl) (Nat.le_of_ble_eq_true rfl) ?_
        refine J_iconst (1) dX7_set0_25 rfl ?_
        refine J_icmp_ne (tgt := 33) dX7_set0_26 (by decide) (fun h9 => ?_) (fun h9 => ?_)
        · skip
          refine J_iconst (0) dX7_set0_33 rfl ?_
          refine J_goto (tgt := 111) dX7_set0_34 (by decide) ?_
          refine J_istore dX7_set0_111 (Nat.le_of_ble_eq_true rfl) ?_
          exact hbody _ (by simp only [mIs, if_neg h1, if_pos h2, if_neg h9])
        · skip
          refine J_iconst (1) dX7_set0_29 rfl ?_
          refine J_goto (tgt := 111) dX7_set0_30 (by decide) ?_
          refine J_istore dX7_set0_111 (Nat.le_of_ble_eq_true rfl) ?_
          exact hbody _ (by simp only [mIs, if_neg h1, if_pos h2, if_pos h9])
set_option maxRecDepth 100000 in
set_option maxHeartbeats 4000000 in
theorem kX7_set0 (S : jX) (I : jI) (o : Nat) (x : Int32) (hM : jModel S o) (hI : jMInv I o) : jM (3, 0, 0) mX7_set0 [.ref o, .int x] S I (jRes (some (.int (fX7_set0 I o x))) S I) := by
  refine jM.of (ls := [.ref o, .int x, .long 0, .long 0, .long 0]) (by decide) (Nat.le_of_ble_eq_true rfl) (by intro v hv; simp only [List.mem_cons, List.not_mem_nil, or_false] at hv; rcases hv with rfl | rfl <;> rfl) rfl (fun G hR => ?_)
  refine J_iconst (0) dX7_set0_0 rfl ?_
  refine J_istore_n dX7_set0_1 (Nat.le_of_ble_eq_true rfl) ?_
  refine J_iconst (0) dX7_set0_2 rfl ?_
  refine J_istore_n dX7_set0_3 (Nat.le_of_ble_eq_true rfl) ?_
  obtain ⟨nb, hn, hc⟩ := hI.1
  have q0 : mCnt I o 0 = nb := by unfold mCnt; rw [hc]; exact nI_clamp (by omega)
  exact lX7_set0 hM hR hn hc (by unfold fX7_set0; rw [q0]; exact ⟨rfl, rfl, rfl⟩) nb 0 (by omega) _
theorem jv20 {I : jI} {w : Int32} (h : ¬ fX7_in I w 20 23 = 0) : vp_in (7 + w - 20) 141 := by
  obtain ⟨h1, h2⟩ := jinT h
  obtain ⟨j, hj, rfl⟩ := nI_of (Int32.not_lt.mpr (Int32.le_trans (show (0 : Int32) ≤ 20 by decide) h1))
  have h3 : nI j ≤ nI 23 := h2
  have h4 : nI 20 ≤ nI j := h1
  rw [nI_leI hj (by decide)] at h3
  rw [nI_leI (by decide) hj] at h4
  have e : (7 : Int32) + nI j - 20 = nI (7 + j - 20) := by
    rw [show (7 : Int32) = nI 7 from rfl, nI_add, show (20 : Int32) = nI 20 from rfl, pk_sub (by omega)]
  rw [e]
  exact vp_in_nI (by omega) (by decide)
def fX7_count (I : jI) (o : Nat) (x : Int32) : Int32 :=
  if x = 0 then
    (I (o + 1) (x).toNatClampNeg)
  else
    if x = 1 then
      (I (o + 1) (x).toNatClampNeg)
    else
      if x = 2 then
        (I (o + 1) (x).toNatClampNeg)
      else
        if x = 3 then
          (fX7_set0 I o x)
        else
          if x = 4 then
            (fX7_set0 I o x)
          else
            if x = 5 then
              (fX7_set0 I o x)
            else
              if x = 6 then
                (fX7_set0 I o x)
              else
                if x = 7 then
                  ((((I (o + 1) ((11 : Int32).toNatClampNeg)) + (I (o + 1) ((12 : Int32).toNatClampNeg))) + (I (o + 1) ((13 : Int32).toNatClampNeg))) + (I (o + 1) ((14 : Int32).toNatClampNeg)))
                else
                  if x = 8 then
                    (I (o + 1) ((5 : Int32).toNatClampNeg))
                  else
                    if x = 9 then
                      (I (o + 1) ((6 : Int32).toNatClampNeg))
                    else
                      if x = 10 then
                        (I (o + 1) ((3 : Int32).toNatClampNeg))
                      else
                        if x = 11 then
                          (I (o + 1) ((4 : Int32).toNatClampNeg))
                        else
                          if x = 12 then
                            (fX7_set0 I o x)
                          else
                            if x = 13 then
                              (I o 3)
                            else
                              if x = 14 then
                                (I o 5)
                              else
                                if (fX7_in I x 20 23) = 0 then
                                  (-2000000001)
                                else
                                  (I (o + 1) (((7 + x) - 20)).toNatClampNeg)
set_option maxRecDepth 100000 in
set_option maxHeartbeats 4000000 in
theorem kX7_count (S : jX) (I : jI) (o : Nat) (x : Int32) (hM : jModel S o) (hI : jMInv I o) : jM (4, 0, 0) mX7_count [.ref o, .int x] S I (jRes (some (.int (fX7_count I o x))) S I) := by
  refine jM.of (ls := [.ref o, .int x]) (by decide) (Nat.le_of_ble_eq_true rfl) (by intro v hv; simp only [List.mem_cons, List.not_mem_nil, or_false] at hv; rcases hv with rfl | rfl <;> rfl) rfl (fun G hR => ?_)
  refine J_iload_n dX7_count_0 rfl ?_
  by_cases h1 : x = 0
  · skip
    refine J_tabIn (off := 75) (tgt := 76) dX7_count_1 (by rw [h1]; decide) (by rw [h1]; decide) (by rw [h1]; rfl) (by decide) ?_
    refine J_aload_n dX7_count_76 rfl rfl ?_
    refine J_getR dX7_count_77 flX7_7 rfl hM.1 hM.r0 ?_
    refine J_iload_n dX7_count_80 rfl ?_
    refine J_iaload dX7_count_81 hM.a0 (by subst_vars; unfold vp_in; decide) ?_
    exact J_iret (ty := .int) hR dX7_count_82 rfl rfl (Nat.le_of_ble_eq_true rfl) (Nat.le_of_ble_eq_true rfl) (jRes_i (by first | (simp only [fX7_count, if_pos h1]; done) | rfl | (simp only [fX7_count, if_pos h1]; rfl)) rfl)
  by_cases h2 : x = 1
  · skip
    refine J_tabIn (off := 75) (tgt := 76) dX7_count_1 (by rw [h2]; decide) (by rw [h2]; decide) (by rw [h2]; rfl) (by decide) ?_
    refine J_aload_n dX7_count_76 rfl rfl ?_
    refine J_getR dX7_count_77 flX7_7 rfl hM.1 hM.r0 ?_
    refine J_iload_n dX7_count_80 rfl ?_
    refine J_iaload dX7_count_81 hM.a0 (by subst_vars; unfold vp_in; decide) ?_
    exact J_iret (ty := .int) hR dX7_count_82 rfl rfl (Nat.le_of_ble_eq_true rfl) (Nat.le_of_ble_eq_true rfl) (jRes_i (by first | (simp only [fX7_count, if_neg h1, if_pos h2]; done) | rfl | (simp only [fX7_count, if_neg h1, if_pos h2]; rfl)) rfl)
  by_cases h3 : x = 2
  · skip
    refine J_tabIn (off := 75) (tgt := 76) dX7_count_1 (by rw [h3]; decide) (by rw [h3]; decide) (by rw [h3]; rfl) (by decide) ?_
    refine J_aload_n dX7_count_76 rfl rfl ?_
    refine J_getR dX7_count_77 flX7_7 rfl hM.1 hM.r0 ?_
    refine J_iload_n dX7_count_80 rfl ?_
    refine J_iaload dX7_count_81 hM.a0 (by subst_vars; unfold vp_in; decide) ?_
    exact J_iret (ty := .int) hR dX7_count_82 rfl rfl (Nat.le_of_ble_eq_true rfl) (Nat.le_of_ble_eq_true rfl) (jRes_i (by first | (simp only [fX7_count, if_neg h1, if_neg h2, if_pos h3]; done) | rfl | (simp only [fX7_count, if_neg h1, if_neg h2, if_pos h3]; rfl)) rfl)
  by_cases h4 : x = 3
  · skip
    refine J_tabIn (off := 82) (tgt := 83) dX7_count_1 (by rw [h4]; decide) (by rw [h4]; decide) (by rw [h4]; rfl) (by decide) ?_
    refine J_aload_n dX7_count_83 rfl rfl ?_
    refine J_iload_n dX7_count_84 rfl ?_
    refine J_cV1r (mc := mX7_set0) hM.1 (by decide) rfl dX7_count_85 mlX7_132 okX7_set0 (kX7_set0 S I o x hM hI) (Nat.le_of_ble_eq_true rfl) (Nat.le_of_ble_eq_true rfl) (Nat.le_of_ble_eq_true rfl) (Nat.le_of_ble_eq_true rfl) ?_
    exact J_iret (ty := .int) hR dX7_count_88 rfl rfl (Nat.le_of_ble_eq_true rfl) (Nat.le_of_ble_eq_true rfl) (jRes_i (by first | (simp only [fX7_count, if_neg h1, if_neg h2, if_neg h3, if_pos h4]; done) | rfl | (simp only [fX7_count, if_neg h1, if_neg h2, if_neg h3, if_pos h4]; rfl)) rfl)
  by_cases h5 : x = 4
  · skip
    refine J_tabIn (off := 82) (tgt := 83) dX7_count_1 (by rw [h5]; decide) (by rw [h5]; decide) (by rw [h5]; rfl) (by decide) ?_
    refine J_aload_n dX7_count_83 rfl rfl ?_
    refine J_iload_n dX7_count_84 rfl ?_
    refine J_cV1r (mc := mX7_set0) hM.1 (by decide) rfl dX7_count_85 mlX7_132 okX7_set0 (kX7_set0 S I o x hM hI) (Nat.le_of_ble_eq_true rfl) (Nat.le_of_ble_eq_true rfl) (Nat.le_of_ble_eq_true rfl) (Nat.le_of_ble_eq_true rfl) ?_
    exact J_iret (ty := .int) hR dX7_count_88 rfl rfl (Nat.le_of_ble_eq_true rfl) (Nat.le_of_ble_eq_true rfl) (jRes_i (by first | (simp only [fX7_count, if_neg h1, if_neg h2, if_neg h3, if_neg h4, if_pos h5]; done) | rfl | (simp only [fX7_count, if_neg h1, if_neg h2, if_neg h3, if_neg h4, if_pos h5]; rfl)) rfl)
  by_cases h6 : x = 5
  · skip
    refine J_tabIn (off := 82) (tgt := 83) dX7_count_1 (by rw [h6]; decide) (by rw [h6]; decide) (by rw [h6]; rfl) (by decide) ?_
    refine J_aload_n dX7_count_83 rfl rfl ?_
    refine J_iload_n dX7_count_84 rfl ?_
    refine J_cV1r (mc := mX7_set0) hM.1 (by decide) rfl dX7_count_85 mlX7_132 okX7_set0 (kX7_set0 S I o x hM hI) (Nat.le_of_ble_eq_true rfl) (Nat.le_of_ble_eq_true rfl) (Nat.le_of_ble_eq_true rfl) (Nat.le_of_ble_eq_true rfl) ?_
    exact J_iret (ty := .int) hR dX7_count_88 rfl rfl (Nat.le_of_ble_eq_true rfl) (Nat.le_of_ble_eq_true rfl) (jRes_i (by first | (simp only [fX7_count, if_neg h1, if_neg h2, if_neg h3, if_neg h4, if_neg h5, if_pos h6]; done) | rfl | (simp only [fX7_count, if_neg h1, if_neg h2, if_neg h3, if_neg h4, if_neg h5, if_pos h6]; rfl)) rfl)
  by_cases h7 : x = 6
  · skip
    refine J_tabIn (off := 82) (tgt := 83) dX7_count_1 (by rw [h7]; decide) (by rw [h7]; decide) (by rw [h7]; rfl) (by decide) ?_
    refine J_aload_n dX7_count_83 rfl rfl ?_
    refine J_iload_n dX7_count_84 rfl ?_
    refine J_cV1r (mc := mX7_set0) hM.1 (by decide) rfl dX7_count_85 mlX7_132 okX7_set0 (kX7_set0 S I o x hM hI) (Nat.le_of_ble_eq_true rfl) (Nat.le_of_ble_eq_true rfl) (Nat.le_of_ble_eq_true rfl) (Nat.le_of_ble_eq_true rfl) ?_
    exact J_iret (ty := .int) hR dX7_count_88 rfl rfl (Nat.le_of_ble_eq_true rfl) (Nat.le_of_ble_eq_true rfl) (jRes_i (by first | (simp only [fX7_count, if_neg h1, if_neg h2, if_neg h3, if_neg h4, if_neg h5, if_neg h6, if_pos h7]; done) | rfl | (simp only [fX7_count, if_neg h1, if_neg h2, if_neg h3, if_neg h4, if_neg h5, if_neg h6, if_pos h7]; rfl)) rfl)
  by_cases h8 : x = 7
  · skip
    refine J_tabIn (off := 88) (tgt := 89) dX7_count_1 (by rw [h8]; decide) (by rw [h8]; decide) (by rw [h8]; rfl) (by decide) ?_
    refine J_aload_n dX7_count_89 rfl rfl ?_
    refine J_getR dX7_count_90 flX7_7 rfl hM.1 hM.r0 ?_
    refine J_bipush (11) dX7_count_93 rfl ?_
    refine J_iaload dX7_count_95 hM.a0 (by unfold vp_in; decide) ?_
    refine J_aload_n dX7_count_96 rfl rfl ?_
    refine J_getR dX7_count_97 flX7_7 rfl hM.1 hM.r0 ?_
    refine J_bipush (12) dX7_count_100 rfl ?_
    refine J_iaload dX7_count_102 hM.a0 (by unfold vp_in; decide) ?_
    refine J_iadd dX7_count_103 ?_
    refine J_aload_n dX7_count_104 rfl rfl ?_
    refine J_getR dX7_count_105 flX7_7 rfl hM.1 hM.r0 ?_
    refine J_bipush (13) dX7_count_108 rfl ?_
    refine J_iaload dX7_count_110 hM.a0 (by unfold vp_in; decide) ?_
    refine J_iadd dX7_count_111 ?_
    refine J_aload_n dX7_count_112 rfl rfl ?_
    refine J_getR dX7_count_113 flX7_7 rfl hM.1 hM.r0 ?_
    refine J_bipush (14) dX7_count_116 rfl ?_
    refine J_iaload dX7_count_118 hM.a0 (by unfold vp_in; decide) ?_
    refine J_iadd dX7_count_119 ?_
    exact J_iret (ty := .int) hR dX7_count_120 rfl rfl (Nat.le_of_ble_eq_true rfl) (Nat.le_of_ble_eq_true rfl) (jRes_i (by first | (simp only [fX7_count, if_neg h1, if_neg h2, if_neg h3, if_neg h4, if_neg h5, if_neg h6, if_neg h7, if_pos h8]; done) | rfl | (simp only [fX7_count, if_neg h1, if_neg h2, if_neg h3, if_neg h4, if_neg h5, if_neg h6, if_neg h7, if_pos h8]; rfl)) rfl)
  by_cases h9 : x = 8
  · skip
    refine J_tabIn (off := 120) (tgt := 121) dX7_count_1 (by rw [h9]; decide) (by rw [h9]; decide) (by rw [h9]; rfl) (by decide) ?_
    refine J_aload_n dX7_count_121 rfl rfl ?_
    refine J_getR dX7_count_122 flX7_7 rfl hM.1 hM.r0 ?_
    refine J_iconst (5) dX7_count_125 rfl ?_
    refine J_iaload dX7_count_126 hM.a0 (by unfold vp_in; decide) ?_
    exact J_iret (ty := .int) hR dX7_count_127 rfl rfl (Nat.le_of_ble_eq_true rfl) (Nat.le_of_ble_eq_true rfl) (jRes_i (by first | (simp only [fX7_count, if_neg h1, if_neg h2, if_neg h3, if_neg h4, if_neg h5, if_neg h6, if_neg h7, if_neg h8, if_pos h9]; done) | rfl | (simp only [fX7_count, if_neg h1, if_neg h2, if_neg h3, if_neg h4, if_neg h5, if_neg h6, if_neg h7, if_neg h8, if_pos h9]; rfl)) rfl)
  by_cases h10 : x = 9
  · skip
    refine J_tabIn (off := 127) (tgt := 128) dX7_count_1 (by rw [h10]; decide) (by rw [h10]; decide) (by rw [h10]; rfl) (by decide) ?_
    refine J_aload_n dX7_count_128 rfl rfl ?_
    refine J_getR dX7_count_129 flX7_7 rfl hM.1 hM.r0 ?_
    refine J_bipush (6) dX7_count_132 rfl ?_
    refine J_iaload dX7_count_134 hM.a0 (by unfold vp_in; decide) ?_
    exact J_iret (ty := .int) hR dX7_count_135 rfl rfl (Nat.le_of_ble_eq_true rfl) (Nat.le_of_ble_eq_true rfl) (jRes_i (by first | (simp only [fX7_count, if_neg h1, if_neg h2, if_neg h3, if_neg h4, if_neg h5, if_neg h6, if_neg h7, if_neg h8, if_neg h9, if_pos h10]; done) | rfl | (simp only [fX7_count, if_neg h1, if_neg h2, if_neg h3, if_neg h4, if_neg h5, if_neg h6, if_neg h7, if_neg h8, if_neg h9, if_pos h10]; rfl)) rfl)
  by_cases h11 : x = 10
  · skip
    refine J_tabIn (off := 135) (tgt := 136) dX7_count_1 (by rw [h11]; decide) (by rw [h11]; decide) (by rw [h11]; rfl) (by decide) ?_
    refine J_aload_n dX7_count_136 rfl rfl ?_
    refine J_getR dX7_count_137 flX7_7 rfl hM.1 hM.r0 ?_
    refine J_iconst (3) dX7_count_140 rfl ?_
    refine J_iaload dX7_count_141 hM.a0 (by unfold vp_in; decide) ?_
    exact J_iret (ty := .int) hR dX7_count_142 rfl rfl (Nat.le_of_ble_eq_true rfl) (Nat.le_of_ble_eq_true rfl) (jRes_i (by first | (simp only [fX7_count, if_neg h1, if_neg h2, if_neg h3, if_neg h4, if_neg h5, if_neg h6, if_neg h7, if_neg h8, if_neg h9, if_neg h10, if_pos h11]; done) | rfl | (simp only [fX7_count, if_neg h1, if_neg h2, if_neg h3, if_neg h4, if_neg h5, if_neg h6, if_neg h7, if_neg h8, if_neg h9, if_neg h10, if_pos h11]; rfl)) rfl)
  by_cases h12 : x = 11
  · skip
    refine J_tabIn (off := 142) (tgt := 143) dX7_count_1 (by rw [h12]; decide) (by rw [h12]; decide) (by rw [h12]; rfl) (by decide) ?_
    refine J_aload_n dX7_count_143 rfl rfl ?_
    refine J_getR dX7_count_144 flX7_7 rfl hM.1 hM.r0 ?_
    refine J_iconst (4) dX7_count_147 rfl ?_
    refine J_iaload dX7_count_148 hM.a0 (by unfold vp_in; decide) ?_
    exact J_iret (ty := .int) hR dX7_count_149 rfl rfl (Nat.le_of_ble_eq_true rfl) (Nat.le_of_ble_eq_true rfl) (jRes_i (by first | (simp only [fX7_count, if_neg h1, if_neg h2, if_neg h3, if_neg h4, if_neg h5, if_neg h6, if_neg h7, if_neg h8, if_neg h9, if_neg h10, if_neg h11, if_pos h12]; done) | rfl | (simp only [fX7_count, if_neg h1, if_neg h2, if_neg h3, if_neg h4, if_neg h5, if_neg h6, if_neg h7, if_neg h8, if_neg h9, if_neg h10, if_neg h11, if_pos h12]; rfl)) rfl)
  by_cases h13 : x = 12
  · skip
    refine J_tabIn (off := 82) (tgt := 83) dX7_count_1 (by rw [h13]; decide) (by rw [h13]; decide) (by rw [h13]; rfl) (by decide) ?_
    refine J_aload_n dX7_count_83 rfl rfl ?_
    refine J_iload_n dX7_count_84 rfl ?_
    refine J_cV1r (mc := mX7_set0) hM.1 (by decide) rfl dX7_count_85 mlX7_132 okX7_set0 (kX7_set0 S I o x hM hI) (Nat.le_of_ble_eq_true rfl) (Nat.le_of_ble_eq_true rfl) (Nat.le_of_ble_eq_true rfl) (Nat.le_of_ble_eq_true rfl) ?_
    exact J_iret (ty := .int) hR dX7_count_88 rfl rfl (Nat.le_of_ble_eq_true rfl) (Nat.le_of_ble_eq_true rfl) (jRes_i (by first | (simp only [fX7_count, if_neg h1, if_neg h2, if_neg h3, if_neg h4, if_neg h5, if_neg h6, if_neg h7, if_neg h8, if_neg h9, if_neg h10, if_neg h11, if_neg h12, if_pos h13]; done) | rfl | (simp only [fX7_count, if_neg h1, if_neg h2, if_neg h3, if_neg h4, if_neg h5, if_neg h6, if_neg h7, if_neg h8, if_neg h9, if_neg h10, if_neg h11, if_neg h12, if_pos h13]; rfl)) rfl)
  by_cases h14 : x = 13
  · skip
    refine J_tabIn (off := 149) (tgt := 150) dX7_count_1 (by rw [h14]; decide) (by rw [h14]; decide) (by rw [h14]; rfl) (by decide) ?_
    refine J_aload_n dX7_count_150 rfl rfl ?_
    refine J_getI dX7_count_151 flX7_26 rfl hM.1 ?_
    exact J_iret (ty := .int) hR dX7_count_154 rfl rfl (Nat.le_of_ble_eq_true rfl) (Nat.le_of_ble_eq_true rfl) (jRes_i (by first | (simp only [fX7_count, if_neg h1, if_neg h2, if_neg h3, if_neg h4, if_neg h5, if_neg h6, if_neg h7, if_neg h8, if_neg h9, if_neg h10, if_neg h11, if_neg h12, if_neg h13, if_pos h14]; done) | rfl | (simp only [fX7_count, if_neg h1, if_neg h2, if_neg h3, if_neg h4, if_neg h5, if_neg h6, if_neg h7, if_neg h8, if_neg h9, if_neg h10, if_neg h11, if_neg h12, if_neg h13, if_pos h14]; rfl)) rfl)
  by_cases h15 : x = 14
  · skip
    refine J_tabIn (off := 154) (tgt := 155) dX7_count_1 (by rw [h15]; decide) (by rw [h15]; decide) (by rw [h15]; rfl) (by decide) ?_
    refine J_aload_n dX7_count_155 rfl rfl ?_
    refine J_getI dX7_count_156 flX7_135 rfl hM.1 ?_
    exact J_iret (ty := .int) hR dX7_count_159 rfl rfl (Nat.le_of_ble_eq_true rfl) (Nat.le_of_ble_eq_true rfl) (jRes_i (by first | (simp only [fX7_count, if_neg h1, if_neg h2, if_neg h3, if_neg h4, if_neg h5, if_neg h6, if_neg h7, if_neg h8, if_neg h9, if_neg h10, if_neg h11, if_neg h12, if_neg h13, if_neg h14, if_pos h15]; done) | rfl | (simp only [fX7_count, if_neg h1, if_neg h2, if_neg h3, if_neg h4, if_neg h5, if_neg h6, if_neg h7, if_neg h8, if_neg h9, if_neg h10, if_neg h11, if_neg h12, if_neg h13, if_neg h14, if_pos h15]; rfl)) rfl)
  refine J_tabOut (tgt := 160) dX7_count_1 (by have e0 := lv_neT h1 (a := 0) rfl; have e1 := lv_neT h2 (a := 1) rfl; have e2 := lv_neT h3 (a := 2) rfl; have e3 := lv_neT h4 (a := 3) rfl; have e4 := lv_neT h5 (a := 4) rfl; have e5 := lv_neT h6 (a := 5) rfl; have e6 := lv_neT h7 (a := 6) rfl; have e7 := lv_neT h8 (a := 7) rfl; have e8 := lv_neT h9 (a := 8) rfl; have e9 := lv_neT h10 (a := 9) rfl; have e10 := lv_neT h11 (a := 10) rfl; have e11 := lv_neT h12 (a := 11) rfl; have e12 := lv_neT h13 (a := 12) rfl; have e13 := lv_neT h14 (a := 13) rfl; have e14 := lv_neT h15 (a := 14) rfl; omega) (by decide) ?_
  refine J_iload_n dX7_count_160 rfl ?_
  refine J_bipush (20) dX7_count_161 rfl ?_
  refine J_bipush (23) dX7_count_163 rfl ?_
  refine J_cS3r (mc := mX7_in) dX7_count_165 mlX7_30 okX7_in (kX7_in S I x 20 23 ) (Nat.le_of_ble_eq_true rfl) (Nat.le_of_ble_eq_true rfl) (Nat.le_of_ble_eq_true rfl) (Nat.le_of_ble_eq_true rfl) ?_
  refine J_if_eq (tgt := 186) dX7_count_168 (by decide) (fun h16 => ?_) (fun h16 => ?_)
  · skip
    refine J_ldc (-2000000001) dX7_count_186 jw_760 ?_
    exact J_iret (ty := .int) hR dX7_count_188 rfl rfl (Nat.le_of_ble_eq_true rfl) (Nat.le_of_ble_eq_true rfl) (jRes_i (by first | (simp only [fX7_count, if_neg h1, if_neg h2, if_neg h3, if_neg h4, if_neg h5, if_neg h6, if_neg h7, if_neg h8, if_neg h9, if_neg h10, if_neg h11, if_neg h12, if_neg h13, if_neg h14, if_neg h15, if_pos h16]; done) | rfl | (simp only [fX7_count, if_neg h1, if_neg h2, if_neg h3, if_neg h4, if_neg h5, if_neg h6, if_neg h7, if_neg h8, if_neg h9, if_neg h10, if_neg h11, if_neg h12, if_neg h13, if_neg h14, if_neg h15, if_pos h16]; rfl)) rfl)
  · skip
    refine J_aload_n dX7_count_171 rfl rfl ?_
    refine J_getR dX7_count_172 flX7_7 rfl hM.1 hM.r0 ?_
    refine J_bipush (7) dX7_count_175 rfl ?_
    refine J_iload_n dX7_count_177 rfl ?_
    refine J_iadd dX7_count_178 ?_
    refine J_bipush (20) dX7_count_179 rfl ?_
    refine J_isub dX7_count_181 ?_
    refine J_iaload dX7_count_182 hM.a0 (jv20 h16) ?_
    refine J_goto (tgt := 188) dX7_count_183 (by decide) ?_
    exact J_iret (ty := .int) hR dX7_count_188 rfl rfl (Nat.le_of_ble_eq_true rfl) (Nat.le_of_ble_eq_true rfl) (jRes_i (by first | (simp only [fX7_count, if_neg h1, if_neg h2, if_neg h3, if_neg h4, if_neg h5, if_neg h6, if_neg h7, if_neg h8, if_neg h9, if_neg h10, if_neg h11, if_neg h12, if_neg h13, if_neg h14, if_neg h15, if_neg h16]; done) | rfl | (simp only [fX7_count, if_neg h1, if_neg h2, if_neg h3, if_neg h4, if_neg h5, if_neg h6, if_neg h7, if_neg h8, if_neg h9, if_neg h10, if_neg h11, if_neg h12, if_neg h13, if_neg h14, if_neg h15, if_neg h16]; rfl)) rfl)
def mBack (I : jI) (o st : Nat) : jI := jrow I (o + 1) (fun k => if k < 141 then I (o + 3) (141 * st + k) else I (o + 1) k)
def fX7_undo (I : jI) (o : Nat) : Int32 × jI :=
  if (I o 3) = 0 then ((-2000000002), I)
  else ((jset I o 3 (I o 3 - 1)) o 3, mBack (jset I o 3 (I o 3 - 1)) o (I o 3 - 1).toNatClampNeg)
set_option maxHeartbeats 4000000 in
theorem lX7_undo {S : jX} {I2 : jI} {o : Nat} {G : jG} {Φ : Option Value → jX → jI → Prop} (hM : jModel S o) (hR : jR G (0, 0, 0) Φ) {st : Nat} (hst : st < 4) (he : I2 o 3 = nI st) (hΦ : Φ (some (.int (I2 o 3))) S (mBack I2 o st)) : ∀ (c i : Nat) (I1 : jI), i + c = 141 → I1 = jrow I2 (o + 1) (fun k => if k < i then I2 (o + 3) (141 * st + k) else I2 (o + 1) k) → J G (0, 0, 0) mX7_undo 22 [.ref o, .int (nI i)] [] S I1 0 0 := by
  intro c
  induction c with
  | zero =>
    intro i I1 hi hI1
    have hi2 : i = 141 := by omega
    subst hi2
    have e0 : I1 o 3 = I2 o 3 := by rw [hI1, jrow_ne (by omega)]
    refine J_iload_n dX7_undo_22 rfl ?_
    refine J_sipush (141) dX7_undo_23 rfl ?_
    refine J_icmp_ge (tgt := 56) dX7_undo_26 (by decide) (fun h1 => ?_) (fun h1 => ?_)
    · skip
      refine J_aload_n dX7_undo_56 rfl rfl ?_
      refine J_getI dX7_undo_57 flX7_26 rfl hM.1 ?_
      exact J_iret (ty := .int) hR dX7_undo_60 rfl rfl (Nat.le_of_ble_eq_true rfl) (Nat.le_of_ble_eq_true rfl) (by rw [e0, hI1]; exact hΦ)
    · skip
      exact absurd (nI_le (a := 141) (b := 141) (by omega) (by omega)) h1
  | succ c ih =>
    intro i I1 hi hI1
    have e1 : (141 : Int32) * I1 o 3 + nI i = nI (141 * st + i) := by
      rw [hI1, jrow_ne (by omega), he, show (141 : Int32) = nI 141 from rfl, pk_mul, nI_add]
    refine J_iload_n dX7_undo_22 rfl ?_
    refine J_sipush (141) dX7_undo_23 rfl ?_
    refine J_icmp_ge (tgt := 56) dX7_undo_26 (by decide) (fun h1 => ?_) (fun h1 => ?_)
    · skip
      exact absurd h1 (nI_ge (a := i) (b := 141) (by omega) (by decide))
    · skip
      refine J_aload_n dX7_undo_29 rfl rfl ?_
      refine J_getR dX7_undo_30 flX7_7 rfl hM.1 hM.r0 ?_
      refine J_iload_n dX7_undo_33 rfl ?_
      refine J_aload_n dX7_undo_34 rfl rfl ?_
      refine J_getR dX7_undo_35 flX7_16 rfl hM.1 hM.r2 ?_
      refine J_sipush (141) dX7_undo_38 rfl ?_
      refine J_aload_n dX7_undo_41 rfl rfl ?_
      refine J_getI dX7_undo_42 flX7_26 rfl hM.1 ?_
      refine J_imul dX7_undo_45 ?_
      refine J_iload_n dX7_undo_46 rfl ?_
      refine J_iadd dX7_undo_47 ?_
      refine J_iaload dX7_undo_48 hM.a2 (by rw [e1]; exact vp_in_nI (n := 141 * st + i) (by omega) (by decide)) ?_
      refine J_iastore dX7_undo_49 hM.a0 (vp_in_nI (n := i) (by omega) (by decide)) ?_
      refine J_iinc (y := 1) dX7_undo_50 rfl rfl ?_
      refine J_goto (tgt := 22) dX7_undo_53 (by decide) ?_
      refine J_eq (ls' := [.ref o, .int (nI (i + 1))]) (by rw [← nI_1]; rfl) rfl (ih (i + 1) _ (by omega) ?_)
      rw [e1, nI_clamp (n := i) (by omega), nI_clamp (n := 141 * st + i) (by omega), hI1, jrow_ne (by omega), jrow_step]
      exact congrArg _ (jcpy (fun k => I2 (o + 3) (141 * st + k)) (I2 (o + 1)) i)
set_option maxRecDepth 100000 in
set_option maxHeartbeats 4000000 in
theorem kX7_undo (S : jX) (I : jI) (o : Nat) (hM : jModel S o) (hs : jStates I o) : jM (0, 0, 0) mX7_undo [.ref o] S I (jRes (some (.int (fX7_undo I o).1)) S (fX7_undo I o).2) := by
  refine jM.of (ls := [.ref o, .long 0]) (by decide) (Nat.le_of_ble_eq_true rfl) (by intro v hv; simp only [List.mem_cons, List.not_mem_nil, or_false] at hv; rcases hv with rfl <;> rfl) rfl (fun G hR => ?_)
  refine J_aload_n dX7_undo_0 rfl rfl ?_
  refine J_getI dX7_undo_1 flX7_26 rfl hM.1 ?_
  refine J_if_ne (tgt := 10) dX7_undo_4 (by decide) (fun h1 => ?_) (fun h1 => ?_)
  · skip
    refine J_aload_n dX7_undo_10 rfl rfl ?_
    refine J_dup dX7_undo_11 rfl ?_
    refine J_getI dX7_undo_12 flX7_26 rfl hM.1 ?_
    refine J_iconst (1) dX7_undo_15 rfl ?_
    refine J_isub dX7_undo_16 ?_
    refine J_putI dX7_undo_17 flX7_26 rfl rfl rfl rfl hM.1 ?_
    refine J_iconst (0) dX7_undo_20 rfl ?_
    refine J_istore_n dX7_undo_21 (Nat.le_of_ble_eq_true rfl) ?_
    obtain ⟨st, hst, he⟩ := hs
    obtain ⟨st, rfl⟩ : ∃ q, st = q + 1 := ⟨st - 1, by
      have : st ≠ 0 := fun h => h1 (by rw [he, h]; rfl)
      omega⟩
    have e9 : I o 3 - 1 = nI st := by rw [he]; exact nI_pred st
    exact lX7_undo hM hR (I2 := jset I o 3 (I o 3 - 1)) (st := st) (by omega) (by simp [jset, e9]) (by unfold fX7_undo; rw [if_neg h1, e9, nI_clamp (by omega)]; exact ⟨rfl, rfl, rfl⟩) 141 0 _ (by omega) (jrow_init (fun k => if_neg (by omega)))
  · skip
    refine J_ldc (-2000000002) dX7_undo_7 jw_790 ?_
    exact J_iret (ty := .int) hR dX7_undo_9 rfl rfl (Nat.le_of_ble_eq_true rfl) (Nat.le_of_ble_eq_true rfl) (jRes_f (by first | (simp only [fX7_undo, if_pos h1]; done) | rfl | (simp only [fX7_undo, if_pos h1]; rfl)))
