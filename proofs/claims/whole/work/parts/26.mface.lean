theorem jo3_number {I : jI} {o : Nat} : (fX7_number I o).2 o 3 = I o 3 := by
  rw [number_eq]
  repeat' split
  all_goals (simp [jset])
theorem jo3_takes {I : jI} {o : Nat} {x : Int32} : (fX7_takesSign I o x) o 3 = I o 3 := by
  rw [takes_eq]
  repeat' split
  all_goals (simp [jset])
theorem tRead_3 {I : jI} {o : Nat} : (tRead I o) o 3 = I o 3 := by
  unfold tRead tE
  rw [jo3_takes]
  unfold tD
  have eC : ∀ J : jI, (tC J o) o 3 = J o 3 := fun J => by unfold tC; rw [jset_n _ _ (by omega), jo3_number]
  have eB : (tB (tA I o) o) o 3 = I o 3 := by
    unfold tB tA
    split <;> (rw [jset_n _ _ (by omega), jset_n _ _ (by omega), jset_n _ _ (by omega)])
  split
  · rw [jset_n _ _ (by omega), jo3_number, jo3_takes, eC, eB]
  · rw [eC, eB]
theorem tDone_3 {I : jI} {o : Nat} (hI : jMInv I o) (hT : jT I o) (h : ¬ I o 5 ≤ I o 6) : (tDone I o) o 3 = I o 3 := by
  have hR : jMInv (tRead I o) o := (tDone_keep hI hT h).2.2.2.2.2
  unfold tDone tF
  split
  · rw [jset_n _ _ (by omega), tRead_3]
  · rw [jset_n _ _ (by omega), jOn.called hR o (by omega), tRead_3]
theorem jbegI {I : jI} {o : Nat} (h : jMInv I o) : jMInv (fX7_begins I o) o := h.row (by unfold fX7_begins; exact jrow_ne (by omega))
theorem jst1 {I J : jI} {o : Nat} (hs : jStates I o) (h : jOn (fX7_begins I o) J o) : jStates J o := by
  unfold jStates
  rw [h o (by omega), show fX7_begins I o o = I o from jrow_ne (by omega)]
  exact hs
theorem jbegL {I : jI} {o : Nat} (h : ∃ l : Nat, l ≤ 60 ∧ I o 5 = nI l) : ∃ l : Nat, l ≤ 60 ∧ (fX7_begins I o) o 5 = nI l := by
  rw [show fX7_begins I o o = I o from jrow_ne (by omega)]
  exact h
theorem jinspV {I : jI} {o : Nat} (h : jMInv I o) (h6 : ¬ (I (o + 1) ((1 : Int32).toNatClampNeg)) = 6) {w : Int32} {k : Nat} (hw : w = nI k) (hk : k < 5) : vp_in (111 + 5 * (I (o + 1) ((1 : Int32).toNatClampNeg)) + w) 141 := by
  obtain ⟨-, ⟨m, hm, e⟩, -⟩ := h
  have e' : I (o + 1) ((1 : Int32).toNatClampNeg) = nI m := e
  rw [e'] at h6 ⊢
  have hm6 : m < 6 := by
    by_cases h9 : m = 6
    · subst h9; exact absurd rfl h6
    · omega
  exact jbyv ⟨m, hm6, rfl⟩ hw hk
def fX7_boiler (I : jI) (o : Nat) (x : Int32) : Int32 × jI :=
  ((fX7_acted ((fX7_comes (fX7_begins I o) o x).2) o ((fX7_comes (fX7_begins I o) o x).1)).1, (fX7_acted ((fX7_comes (fX7_begins I o) o x).2) o ((fX7_comes (fX7_begins I o) o x).1)).2)
set_option maxRecDepth 100000 in
set_option maxHeartbeats 4000000 in
theorem kX7_boiler (S : jX) (I : jI) (o : Nat) (x : Int32) (hM : jModel S o) (hI : jMInv I o) (hs : jStates I o) : jM (2, 0, 0) mX7_boiler [.ref o, .int x] S I (jRes (some (.int (fX7_boiler I o x).1)) S (fX7_boiler I o x).2) := by
  refine jM.of (ls := [.ref o, .int x]) (by decide) (Nat.le_of_ble_eq_true rfl) (by intro v hv; simp only [List.mem_cons, List.not_mem_nil, or_false] at hv; rcases hv with rfl | rfl <;> rfl) rfl (fun G hR => ?_)
  refine J_aload_n dX7_boiler_0 rfl rfl ?_
  refine J_cV0 (mc := mX7_begins) hM.1 (by decide) rfl dX7_boiler_1 mlX7_97 okX7_begins (kX7_begins S I o hM) (Nat.le_of_ble_eq_true rfl) (Nat.le_of_ble_eq_true rfl) (Nat.le_of_ble_eq_true rfl) (Nat.le_of_ble_eq_true rfl) ?_
  refine J_aload_n dX7_boiler_4 rfl rfl ?_
  refine J_aload_n dX7_boiler_5 rfl rfl ?_
  refine J_iload_n dX7_boiler_6 rfl ?_
  refine J_cV1r (mc := mX7_comes) hM.1 (by decide) rfl dX7_boiler_7 mlX7_100 okX7_comes (kX7_comes S (fX7_begins I o) o x hM (jbegI hI)) (Nat.le_of_ble_eq_true rfl) (Nat.le_of_ble_eq_true rfl) (Nat.le_of_ble_eq_true rfl) (Nat.le_of_ble_eq_true rfl) ?_
  refine J_cV1r (mc := mX7_acted) hM.1 (by decide) rfl dX7_boiler_10 mlX7_103 okX7_acted (kX7_acted S ((fX7_comes (fX7_begins I o) o x).2) o ((fX7_comes (fX7_begins I o) o x).1) hM (jst1 hs jOn.comes)) (Nat.le_of_ble_eq_true rfl) (Nat.le_of_ble_eq_true rfl) (Nat.le_of_ble_eq_true rfl) (Nat.le_of_ble_eq_true rfl) ?_
  exact J_iret (ty := .int) hR dX7_boiler_13 rfl rfl (Nat.le_of_ble_eq_true rfl) (Nat.le_of_ble_eq_true rfl) (jRes_f (by first | (simp only [fX7_boiler]; done) | rfl | (simp only [fX7_boiler]; rfl)))
def fX7_inspector (I : jI) (o : Nat) (x : Int32) (y : Int32) : Int32 × jI :=
  if (fX7_in (fX7_begins I o) x 0 1) = 0 then
    ((-2000000001), (fX7_begins I o))
  else
    if (fX7_in (fX7_begins I o) y 1 3) = 0 then
      ((-2000000001), (fX7_begins I o))
    else
      if ((fX7_begins I o) (o + 1) ((1 : Int32).toNatClampNeg)) = 6 then
        ((-2000000003), (fX7_begins I o))
      else
        ((fX7_acted (jset (jset (jset (jset (jset (jset (fX7_begins I o) (o + 1) (((111 + (5 * ((fX7_begins I o) (o + 1) ((1 : Int32).toNatClampNeg)))) + 0)).toNatClampNeg x) (o + 1) (((111 + (5 * ((fX7_begins I o) (o + 1) ((1 : Int32).toNatClampNeg)))) + 1)).toNatClampNeg y) (o + 1) (((111 + (5 * ((fX7_begins I o) (o + 1) ((1 : Int32).toNatClampNeg)))) + 2)).toNatClampNeg 0) (o + 1) (((111 + (5 * ((fX7_begins I o) (o + 1) ((1 : Int32).toNatClampNeg)))) + 3)).toNatClampNeg 0) (o + 1) (((111 + (5 * ((fX7_begins I o) (o + 1) ((1 : Int32).toNatClampNeg)))) + 4)).toNatClampNeg 0) (o + 1) ((1 : Int32).toNatClampNeg) (((jset (jset (jset (jset (jset (fX7_begins I o) (o + 1) (((111 + (5 * ((fX7_begins I o) (o + 1) ((1 : Int32).toNatClampNeg)))) + 0)).toNatClampNeg x) (o + 1) (((111 + (5 * ((fX7_begins I o) (o + 1) ((1 : Int32).toNatClampNeg)))) + 1)).toNatClampNeg y) (o + 1) (((111 + (5 * ((fX7_begins I o) (o + 1) ((1 : Int32).toNatClampNeg)))) + 2)).toNatClampNeg 0) (o + 1) (((111 + (5 * ((fX7_begins I o) (o + 1) ((1 : Int32).toNatClampNeg)))) + 3)).toNatClampNeg 0) (o + 1) (((111 + (5 * ((fX7_begins I o) (o + 1) ((1 : Int32).toNatClampNeg)))) + 4)).toNatClampNeg 0) (o + 1) ((1 : Int32).toNatClampNeg)) + 1)) o (((jset (jset (jset (jset (jset (jset (fX7_begins I o) (o + 1) (((111 + (5 * ((fX7_begins I o) (o + 1) ((1 : Int32).toNatClampNeg)))) + 0)).toNatClampNeg x) (o + 1) (((111 + (5 * ((fX7_begins I o) (o + 1) ((1 : Int32).toNatClampNeg)))) + 1)).toNatClampNeg y) (o + 1) (((111 + (5 * ((fX7_begins I o) (o + 1) ((1 : Int32).toNatClampNeg)))) + 2)).toNatClampNeg 0) (o + 1) (((111 + (5 * ((fX7_begins I o) (o + 1) ((1 : Int32).toNatClampNeg)))) + 3)).toNatClampNeg 0) (o + 1) (((111 + (5 * ((fX7_begins I o) (o + 1) ((1 : Int32).toNatClampNeg)))) + 4)).toNatClampNeg 0) (o + 1) ((1 : Int32).toNatClampNeg) (((jset (jset (jset (jset (jset (fX7_begins I o) (o + 1) (((111 + (5 * ((fX7_begins I o) (o + 1) ((1 : Int32).toNatClampNeg)))) + 0)).toNatClampNeg x) (o + 1) (((111 + (5 * ((fX7_begins I o) (o + 1) ((1 : Int32).toNatClampNeg)))) + 1)).toNatClampNeg y) (o + 1) (((111 + (5 * ((fX7_begins I o) (o + 1) ((1 : Int32).toNatClampNeg)))) + 2)).toNatClampNeg 0) (o + 1) (((111 + (5 * ((fX7_begins I o) (o + 1) ((1 : Int32).toNatClampNeg)))) + 3)).toNatClampNeg 0) (o + 1) (((111 + (5 * ((fX7_begins I o) (o + 1) ((1 : Int32).toNatClampNeg)))) + 4)).toNatClampNeg 0) (o + 1) ((1 : Int32).toNatClampNeg)) + 1)) (o + 1) ((1 : Int32).toNatClampNeg)) - 1)).1, (fX7_acted (jset (jset (jset (jset (jset (jset (fX7_begins I o) (o + 1) (((111 + (5 * ((fX7_begins I o) (o + 1) ((1 : Int32).toNatClampNeg)))) + 0)).toNatClampNeg x) (o + 1) (((111 + (5 * ((fX7_begins I o) (o + 1) ((1 : Int32).toNatClampNeg)))) + 1)).toNatClampNeg y) (o + 1) (((111 + (5 * ((fX7_begins I o) (o + 1) ((1 : Int32).toNatClampNeg)))) + 2)).toNatClampNeg 0) (o + 1) (((111 + (5 * ((fX7_begins I o) (o + 1) ((1 : Int32).toNatClampNeg)))) + 3)).toNatClampNeg 0) (o + 1) (((111 + (5 * ((fX7_begins I o) (o + 1) ((1 : Int32).toNatClampNeg)))) + 4)).toNatClampNeg 0) (o + 1) ((1 : Int32).toNatClampNeg) (((jset (jset (jset (jset (jset (fX7_begins I o) (o + 1) (((111 + (5 * ((fX7_begins I o) (o + 1) ((1 : Int32).toNatClampNeg)))) + 0)).toNatClampNeg x) (o + 1) (((111 + (5 * ((fX7_begins I o) (o + 1) ((1 : Int32).toNatClampNeg)))) + 1)).toNatClampNeg y) (o + 1) (((111 + (5 * ((fX7_begins I o) (o + 1) ((1 : Int32).toNatClampNeg)))) + 2)).toNatClampNeg 0) (o + 1) (((111 + (5 * ((fX7_begins I o) (o + 1) ((1 : Int32).toNatClampNeg)))) + 3)).toNatClampNeg 0) (o + 1) (((111 + (5 * ((fX7_begins I o) (o + 1) ((1 : Int32).toNatClampNeg)))) + 4)).toNatClampNeg 0) (o + 1) ((1 : Int32).toNatClampNeg)) + 1)) o (((jset (jset (jset (jset (jset (jset (fX7_begins I o) (o + 1) (((111 + (5 * ((fX7_begins I o) (o + 1) ((1 : Int32).toNatClampNeg)))) + 0)).toNatClampNeg x) (o + 1) (((111 + (5 * ((fX7_begins I o) (o + 1) ((1 : Int32).toNatClampNeg)))) + 1)).toNatClampNeg y) (o + 1) (((111 + (5 * ((fX7_begins I o) (o + 1) ((1 : Int32).toNatClampNeg)))) + 2)).toNatClampNeg 0) (o + 1) (((111 + (5 * ((fX7_begins I o) (o + 1) ((1 : Int32).toNatClampNeg)))) + 3)).toNatClampNeg 0) (o + 1) (((111 + (5 * ((fX7_begins I o) (o + 1) ((1 : Int32).toNatClampNeg)))) + 4)).toNatClampNeg 0) (o + 1) ((1 : Int32).toNatClampNeg) (((jset (jset (jset (jset (jset (fX7_begins I o) (o + 1) (((111 + (5 * ((fX7_begins I o) (o + 1) ((1 : Int32).toNatClampNeg)))) + 0)).toNatClampNeg x) (o + 1) (((111 + (5 * ((fX7_begins I o) (o + 1) ((1 : Int32).toNatClampNeg)))) + 1)).toNatClampNeg y) (o + 1) (((111 + (5 * ((fX7_begins I o) (o + 1) ((1 : Int32).toNatClampNeg)))) + 2)).toNatClampNeg 0) (o + 1) (((111 + (5 * ((fX7_begins I o) (o + 1) ((1 : Int32).toNatClampNeg)))) + 3)).toNatClampNeg 0) (o + 1) (((111 + (5 * ((fX7_begins I o) (o + 1) ((1 : Int32).toNatClampNeg)))) + 4)).toNatClampNeg 0) (o + 1) ((1 : Int32).toNatClampNeg)) + 1)) (o + 1) ((1 : Int32).toNatClampNeg)) - 1)).2)
set_option maxRecDepth 100000 in
set_option maxHeartbeats 4000000 in
theorem kX7_inspector (S : jX) (I : jI) (o : Nat) (x : Int32) (y : Int32) (hM : jModel S o) (hI : jMInv I o) (hs : jStates I o) : jM (2, 0, 0) mX7_inspector [.ref o, .int x, .int y] S I (jRes (some (.int (fX7_inspector I o x y).1)) S (fX7_inspector I o x y).2) := by
  refine jM.of (ls := [.ref o, .int x, .int y, .long 0]) (by decide) (Nat.le_of_ble_eq_true rfl) (by intro v hv; simp only [List.mem_cons, List.not_mem_nil, or_false] at hv; rcases hv with rfl | rfl | rfl <;> rfl) rfl (fun G hR => ?_)
  refine J_aload_n dX7_inspector_0 rfl rfl ?_
  refine J_cV0 (mc := mX7_begins) hM.1 (by decide) rfl dX7_inspector_1 mlX7_97 okX7_begins (kX7_begins S I o hM) (Nat.le_of_ble_eq_true rfl) (Nat.le_of_ble_eq_true rfl) (Nat.le_of_ble_eq_true rfl) (Nat.le_of_ble_eq_true rfl) ?_
  refine J_iload_n dX7_inspector_4 rfl ?_
  refine J_iconst (0) dX7_inspector_5 rfl ?_
  refine J_iconst (1) dX7_inspector_6 rfl ?_
  refine J_cS3r (mc := mX7_in) dX7_inspector_7 mlX7_30 okX7_in (kX7_in S (fX7_begins I o) x 0 1 ) (Nat.le_of_ble_eq_true rfl) (Nat.le_of_ble_eq_true rfl) (Nat.le_of_ble_eq_true rfl) (Nat.le_of_ble_eq_true rfl) ?_
  refine J_if_eq (tgt := 22) dX7_inspector_10 (by decide) (fun h1 => ?_) (fun h1 => ?_)
  · skip
    refine J_ldc (-2000000001) dX7_inspector_22 jw_760 ?_
    exact J_iret (ty := .int) hR dX7_inspector_24 rfl rfl (Nat.le_of_ble_eq_true rfl) (Nat.le_of_ble_eq_true rfl) (jRes_f (by first | (simp only [fX7_inspector, if_pos h1]; done) | rfl | (simp only [fX7_inspector, if_pos h1]; rfl)))
  · skip
    refine J_iload_n dX7_inspector_13 rfl ?_
    refine J_iconst (1) dX7_inspector_14 rfl ?_
    refine J_iconst (3) dX7_inspector_15 rfl ?_
    refine J_cS3r (mc := mX7_in) dX7_inspector_16 mlX7_30 okX7_in (kX7_in S (fX7_begins I o) y 1 3 ) (Nat.le_of_ble_eq_true rfl) (Nat.le_of_ble_eq_true rfl) (Nat.le_of_ble_eq_true rfl) (Nat.le_of_ble_eq_true rfl) ?_
    refine J_if_ne (tgt := 25) dX7_inspector_19 (by decide) (fun h2 => ?_) (fun h2 => ?_)
    · skip
      refine J_aload_n dX7_inspector_25 rfl rfl ?_
      refine J_getR dX7_inspector_26 flX7_7 rfl hM.1 hM.r0 ?_
      refine J_iconst (1) dX7_inspector_29 rfl ?_
      refine J_iaload dX7_inspector_30 hM.a0 (by unfold vp_in; decide) ?_
      refine J_bipush (6) dX7_inspector_31 rfl ?_
      refine J_icmp_ne (tgt := 39) dX7_inspector_33 (by decide) (fun h3 => ?_) (fun h3 => ?_)
      · skip
        refine J_bipush (111) dX7_inspector_39 rfl ?_
        refine J_iconst (5) dX7_inspector_41 rfl ?_
        refine J_aload_n dX7_inspector_42 rfl rfl ?_
        refine J_getR dX7_inspector_43 flX7_7 rfl hM.1 hM.r0 ?_
        refine J_iconst (1) dX7_inspector_46 rfl ?_
        refine J_iaload dX7_inspector_47 hM.a0 (by unfold vp_in; decide) ?_
        refine J_imul dX7_inspector_48 ?_
        refine J_iadd dX7_inspector_49 ?_
        refine J_istore_n dX7_inspector_50 (Nat.le_of_ble_eq_true rfl) ?_
        refine J_aload_n dX7_inspector_51 rfl rfl ?_
        refine J_getR dX7_inspector_52 flX7_7 rfl hM.1 hM.r0 ?_
        refine J_iload_n dX7_inspector_55 rfl ?_
        refine J_iconst (0) dX7_inspector_56 rfl ?_
        refine J_iadd dX7_inspector_57 ?_
        refine J_iload_n dX7_inspector_58 rfl ?_
        refine J_iastore dX7_inspector_59 hM.a0 (jinspV (jbegI hI) h3 (k := 0) rfl (by decide)) ?_
        refine J_aload_n dX7_inspector_60 rfl rfl ?_
        refine J_getR dX7_inspector_61 flX7_7 rfl hM.1 hM.r0 ?_
        refine J_iload_n dX7_inspector_64 rfl ?_
        refine J_iconst (1) dX7_inspector_65 rfl ?_
        refine J_iadd dX7_inspector_66 ?_
        refine J_iload_n dX7_inspector_67 rfl ?_
        refine J_iastore dX7_inspector_68 hM.a0 (jinspV (jbegI hI) h3 (k := 1) rfl (by decide)) ?_
        refine J_aload_n dX7_inspector_69 rfl rfl ?_
        refine J_getR dX7_inspector_70 flX7_7 rfl hM.1 hM.r0 ?_
        refine J_iload_n dX7_inspector_73 rfl ?_
        refine J_iconst (2) dX7_inspector_74 rfl ?_
        refine J_iadd dX7_inspector_75 ?_
        refine J_iconst (0) dX7_inspector_76 rfl ?_
        refine J_iastore dX7_inspector_77 hM.a0 (jinspV (jbegI hI) h3 (k := 2) rfl (by decide)) ?_
        refine J_aload_n dX7_inspector_78 rfl rfl ?_
        refine J_getR dX7_inspector_79 flX7_7 rfl hM.1 hM.r0 ?_
        refine J_iload_n dX7_inspector_82 rfl ?_
        refine J_iconst (3) dX7_inspector_83 rfl ?_
        refine J_iadd dX7_inspector_84 ?_
        refine J_iconst (0) dX7_inspector_85 rfl ?_
        refine J_iastore dX7_inspector_86 hM.a0 (jinspV (jbegI hI) h3 (k := 3) rfl (by decide)) ?_
        refine J_aload_n dX7_inspector_87 rfl rfl ?_
        refine J_getR dX7_inspector_88 flX7_7 rfl hM.1 hM.r0 ?_
        refine J_iload_n dX7_inspector_91 rfl ?_
        refine J_iconst (4) dX7_inspector_92 rfl ?_
        refine J_iadd dX7_inspector_93 ?_
        refine J_iconst (0) dX7_inspector_94 rfl ?_
        refine J_iastore dX7_inspector_95 hM.a0 (jinspV (jbegI hI) h3 (k := 4) rfl (by decide)) ?_
        refine J_aload_n dX7_inspector_96 rfl rfl ?_
        refine J_getR dX7_inspector_97 flX7_7 rfl hM.1 hM.r0 ?_
        refine J_iconst (1) dX7_inspector_100 rfl ?_
        refine J_dup2 dX7_inspector_101 rfl rfl ?_
        refine J_iaload dX7_inspector_102 hM.a0 (by unfold vp_in; decide) ?_
        refine J_iconst (1) dX7_inspector_103 rfl ?_
        refine J_iadd dX7_inspector_104 ?_
        refine J_iastore dX7_inspector_105 hM.a0 (by unfold vp_in; decide) ?_
        refine J_aload_n dX7_inspector_106 rfl rfl ?_
        refine J_aload_n dX7_inspector_107 rfl rfl ?_
        refine J_getR dX7_inspector_108 flX7_7 rfl hM.1 hM.r0 ?_
        refine J_iconst (1) dX7_inspector_111 rfl ?_
        refine J_iaload dX7_inspector_112 hM.a0 (by unfold vp_in; decide) ?_
        refine J_iconst (1) dX7_inspector_113 rfl ?_
        refine J_isub dX7_inspector_114 ?_
        refine J_cV1r (mc := mX7_acted) hM.1 (by decide) rfl dX7_inspector_115 mlX7_103 okX7_acted (kX7_acted S (jset (jset (jset (jset (jset (jset (fX7_begins I o) (o + 1) (((111 + (5 * ((fX7_begins I o) (o + 1) ((1 : Int32).toNatClampNeg)))) + 0)).toNatClampNeg x) (o + 1) (((111 + (5 * ((fX7_begins I o) (o + 1) ((1 : Int32).toNatClampNeg)))) + 1)).toNatClampNeg y) (o + 1) (((111 + (5 * ((fX7_begins I o) (o + 1) ((1 : Int32).toNatClampNeg)))) + 2)).toNatClampNeg 0) (o + 1) (((111 + (5 * ((fX7_begins I o) (o + 1) ((1 : Int32).toNatClampNeg)))) + 3)).toNatClampNeg 0) (o + 1) (((111 + (5 * ((fX7_begins I o) (o + 1) ((1 : Int32).toNatClampNeg)))) + 4)).toNatClampNeg 0) (o + 1) ((1 : Int32).toNatClampNeg) (((jset (jset (jset (jset (jset (fX7_begins I o) (o + 1) (((111 + (5 * ((fX7_begins I o) (o + 1) ((1 : Int32).toNatClampNeg)))) + 0)).toNatClampNeg x) (o + 1) (((111 + (5 * ((fX7_begins I o) (o + 1) ((1 : Int32).toNatClampNeg)))) + 1)).toNatClampNeg y) (o + 1) (((111 + (5 * ((fX7_begins I o) (o + 1) ((1 : Int32).toNatClampNeg)))) + 2)).toNatClampNeg 0) (o + 1) (((111 + (5 * ((fX7_begins I o) (o + 1) ((1 : Int32).toNatClampNeg)))) + 3)).toNatClampNeg 0) (o + 1) (((111 + (5 * ((fX7_begins I o) (o + 1) ((1 : Int32).toNatClampNeg)))) + 4)).toNatClampNeg 0) (o + 1) ((1 : Int32).toNatClampNeg)) + 1)) o (((jset (jset (jset (jset (jset (jset (fX7_begins I o) (o + 1) (((111 + (5 * ((fX7_begins I o) (o + 1) ((1 : Int32).toNatClampNeg)))) + 0)).toNatClampNeg x) (o + 1) (((111 + (5 * ((fX7_begins I o) (o + 1) ((1 : Int32).toNatClampNeg)))) + 1)).toNatClampNeg y) (o + 1) (((111 + (5 * ((fX7_begins I o) (o + 1) ((1 : Int32).toNatClampNeg)))) + 2)).toNatClampNeg 0) (o + 1) (((111 + (5 * ((fX7_begins I o) (o + 1) ((1 : Int32).toNatClampNeg)))) + 3)).toNatClampNeg 0) (o + 1) (((111 + (5 * ((fX7_begins I o) (o + 1) ((1 : Int32).toNatClampNeg)))) + 4)).toNatClampNeg 0) (o + 1) ((1 : Int32).toNatClampNeg) (((jset (jset (jset (jset (jset (fX7_begins I o) (o + 1) (((111 + (5 * ((fX7_begins I o) (o + 1) ((1 : Int32).toNatClampNeg)))) + 0)).toNatClampNeg x) (o + 1) (((111 + (5 * ((fX7_begins I o) (o + 1) ((1 : Int32).toNatClampNeg)))) + 1)).toNatClampNeg y) (o + 1) (((111 + (5 * ((fX7_begins I o) (o + 1) ((1 : Int32).toNatClampNeg)))) + 2)).toNatClampNeg 0) (o + 1) (((111 + (5 * ((fX7_begins I o) (o + 1) ((1 : Int32).toNatClampNeg)))) + 3)).toNatClampNeg 0) (o + 1) (((111 + (5 * ((fX7_begins I o) (o + 1) ((1 : Int32).toNatClampNeg)))) + 4)).toNatClampNeg 0) (o + 1) ((1 : Int32).toNatClampNeg)) + 1)) (o + 1) ((1 : Int32).toNatClampNeg)) - 1) hM (jst1 hs jOn.rf.put.put.put.put.put.put)) (Nat.le_of_ble_eq_true rfl) (Nat.le_of_ble_eq_true rfl) (Nat.le_of_ble_eq_true rfl) (Nat.le_of_ble_eq_true rfl) ?_
        exact J_iret (ty := .int) hR dX7_inspector_118 rfl rfl (Nat.le_of_ble_eq_true rfl) (Nat.le_of_ble_eq_true rfl) (jRes_f (by first | (simp only [fX7_inspector, if_neg h1, if_neg h2, if_neg h3]; done) | rfl | (simp only [fX7_inspector, if_neg h1, if_neg h2, if_neg h3]; rfl)))
      · skip
        refine J_ldc (-2000000003) dX7_inspector_36 jw_761 ?_
        exact J_iret (ty := .int) hR dX7_inspector_38 rfl rfl (Nat.le_of_ble_eq_true rfl) (Nat.le_of_ble_eq_true rfl) (jRes_f (by first | (simp only [fX7_inspector, if_neg h1, if_neg h2, if_pos h3]; done) | rfl | (simp only [fX7_inspector, if_neg h1, if_neg h2, if_pos h3]; rfl)))
    · skip
      refine J_ldc (-2000000001) dX7_inspector_22 jw_760 ?_
      exact J_iret (ty := .int) hR dX7_inspector_24 rfl rfl (Nat.le_of_ble_eq_true rfl) (Nat.le_of_ble_eq_true rfl) (jRes_f (by first | (simp only [fX7_inspector, if_neg h1, if_pos h2]; done) | rfl | (simp only [fX7_inspector, if_neg h1, if_pos h2]; rfl)))
def fX7_press (I : jI) (o : Nat) (x : Int32) (y : Int32) : Int32 × jI :=
  if (fX7_isBoiler (fX7_begins I o) o x) = 0 then
    ((-2000000001), (fX7_begins I o))
  else
    if (fX7_in (fX7_begins I o) y 1 (fX7_of (fX7_begins I o) o x 0)) = 0 then
      ((-2000000001), (fX7_begins I o))
    else
      if (fX7_of (fX7_begins I o) o x 3) = 1 then
        if y ≤ (fX7_of (fX7_begins I o) o x 10) then
          ((fX7_acted (fX7_lays (fX7_begins I o) o x 1 y) o (fX7_of (fX7_begins I o) o x 1)).1, (fX7_acted (fX7_lays (fX7_begins I o) o x 1 y) o (fX7_of (fX7_begins I o) o x 1)).2)
        else
          ((-2000000002), (fX7_begins I o))
      else
        ((fX7_acted (fX7_lays (fX7_begins I o) o x 1 y) o (fX7_of (fX7_begins I o) o x 1)).1, (fX7_acted (fX7_lays (fX7_begins I o) o x 1 y) o (fX7_of (fX7_begins I o) o x 1)).2)
set_option maxRecDepth 100000 in
set_option maxHeartbeats 4000000 in
theorem kX7_press (S : jX) (I : jI) (o : Nat) (x : Int32) (y : Int32) (hM : jModel S o) (hI : jMInv I o) (hs : jStates I o) : jM (2, 0, 0) mX7_press [.ref o, .int x, .int y] S I (jRes (some (.int (fX7_press I o x y).1)) S (fX7_press I o x y).2) := by
  refine jM.of (ls := [.ref o, .int x, .int y, .long 0]) (by decide) (Nat.le_of_ble_eq_true rfl) (by intro v hv; simp only [List.mem_cons, List.not_mem_nil, or_false] at hv; rcases hv with rfl | rfl | rfl <;> rfl) rfl (fun G hR => ?_)
  refine J_aload_n dX7_press_0 rfl rfl ?_
  refine J_cV0 (mc := mX7_begins) hM.1 (by decide) rfl dX7_press_1 mlX7_97 okX7_begins (kX7_begins S I o hM) (Nat.le_of_ble_eq_true rfl) (Nat.le_of_ble_eq_true rfl) (Nat.le_of_ble_eq_true rfl) (Nat.le_of_ble_eq_true rfl) ?_
  refine J_aload_n dX7_press_4 rfl rfl ?_
  refine J_iload_n dX7_press_5 rfl ?_
  refine J_cV1r (mc := mX7_isBoiler) hM.1 (by decide) rfl dX7_press_6 mlX7_67 okX7_isBoiler (kX7_isBoiler S (fX7_begins I o) o x hM) (Nat.le_of_ble_eq_true rfl) (Nat.le_of_ble_eq_true rfl) (Nat.le_of_ble_eq_true rfl) (Nat.le_of_ble_eq_true rfl) ?_
  refine J_if_eq (tgt := 26) dX7_press_9 (by decide) (fun h1 => ?_) (fun h1 => ?_)
  · skip
    refine J_ldc (-2000000001) dX7_press_26 jw_760 ?_
    exact J_iret (ty := .int) hR dX7_press_28 rfl rfl (Nat.le_of_ble_eq_true rfl) (Nat.le_of_ble_eq_true rfl) (jRes_f (by first | (simp only [fX7_press, if_pos h1]; done) | rfl | (simp only [fX7_press, if_pos h1]; rfl)))
  · skip
    refine J_iload_n dX7_press_12 rfl ?_
    refine J_iconst (1) dX7_press_13 rfl ?_
    refine J_aload_n dX7_press_14 rfl rfl ?_
    refine J_iload_n dX7_press_15 rfl ?_
    refine J_iconst (0) dX7_press_16 rfl ?_
    refine J_cV2r (mc := mX7_of) hM.1 (by decide) rfl dX7_press_17 mlX7_34 okX7_of (kX7_of S (fX7_begins I o) o x 0 hM (jofv (jisB (jbegI hI) h1) (k := 0) rfl (by decide))) (Nat.le_of_ble_eq_true rfl) (Nat.le_of_ble_eq_true rfl) (Nat.le_of_ble_eq_true rfl) (Nat.le_of_ble_eq_true rfl) ?_
    refine J_cS3r (mc := mX7_in) dX7_press_20 mlX7_30 okX7_in (kX7_in S (fX7_begins I o) y 1 (fX7_of (fX7_begins I o) o x 0) ) (Nat.le_of_ble_eq_true rfl) (Nat.le_of_ble_eq_true rfl) (Nat.le_of_ble_eq_true rfl) (Nat.le_of_ble_eq_true rfl) ?_
    refine J_if_ne (tgt := 29) dX7_press_23 (by decide) (fun h2 => ?_) (fun h2 => ?_)
    · skip
      refine J_aload_n dX7_press_29 rfl rfl ?_
      refine J_iload_n dX7_press_30 rfl ?_
      refine J_iconst (3) dX7_press_31 rfl ?_
      refine J_cV2r (mc := mX7_of) hM.1 (by decide) rfl dX7_press_32 mlX7_34 okX7_of (kX7_of S (fX7_begins I o) o x 3 hM (jofv (jisB (jbegI hI) h1) (k := 3) rfl (by decide))) (Nat.le_of_ble_eq_true rfl) (Nat.le_of_ble_eq_true rfl) (Nat.le_of_ble_eq_true rfl) (Nat.le_of_ble_eq_true rfl) ?_
      refine J_iconst (1) dX7_press_35 rfl ?_
      refine J_icmp_ne (tgt := 53) dX7_press_36 (by decide) (fun h3 => ?_) (fun h3 => ?_)
      · skip
        refine J_aload_n dX7_press_53 rfl rfl ?_
        refine J_iload_n dX7_press_54 rfl ?_
        refine J_iconst (1) dX7_press_55 rfl ?_
        refine J_cV2r (mc := mX7_of) hM.1 (by decide) rfl dX7_press_56 mlX7_34 okX7_of (kX7_of S (fX7_begins I o) o x 1 hM (jofv (jisB (jbegI hI) h1) (k := 1) rfl (by decide))) (Nat.le_of_ble_eq_true rfl) (Nat.le_of_ble_eq_true rfl) (Nat.le_of_ble_eq_true rfl) (Nat.le_of_ble_eq_true rfl) ?_
        refine J_istore_n dX7_press_59 (Nat.le_of_ble_eq_true rfl) ?_
        refine J_aload_n dX7_press_60 rfl rfl ?_
        refine J_iload_n dX7_press_61 rfl ?_
        refine J_iconst (1) dX7_press_62 rfl ?_
        refine J_iload_n dX7_press_63 rfl ?_
        refine J_cV3 (mc := mX7_lays) hM.1 (by decide) rfl dX7_press_64 mlX7_52 okX7_lays (kX7_lays S (fX7_begins I o) o x 1 y hM (jofv (jisB (jbegI hI) h1) (k := 1) rfl (by decide))) (Nat.le_of_ble_eq_true rfl) (Nat.le_of_ble_eq_true rfl) (Nat.le_of_ble_eq_true rfl) (Nat.le_of_ble_eq_true rfl) ?_
        refine J_aload_n dX7_press_67 rfl rfl ?_
        refine J_iload_n dX7_press_68 rfl ?_
        refine J_cV1r (mc := mX7_acted) hM.1 (by decide) rfl dX7_press_69 mlX7_103 okX7_acted (kX7_acted S (fX7_lays (fX7_begins I o) o x 1 y) o (fX7_of (fX7_begins I o) o x 1) hM (jst1 hs jOn.rf.lay)) (Nat.le_of_ble_eq_true rfl) (Nat.le_of_ble_eq_true rfl) (Nat.le_of_ble_eq_true rfl) (Nat.le_of_ble_eq_true rfl) ?_
        exact J_iret (ty := .int) hR dX7_press_72 rfl rfl (Nat.le_of_ble_eq_true rfl) (Nat.le_of_ble_eq_true rfl) (jRes_f (by first | (simp only [fX7_press, if_neg h1, if_neg h2, if_neg h3]; done) | rfl | (simp only [fX7_press, if_neg h1, if_neg h2, if_neg h3]; rfl)))
      · skip
        refine J_iload_n dX7_press_39 rfl ?_
        refine J_aload_n dX7_press_40 rfl rfl ?_
        refine J_iload_n dX7_press_41 rfl ?_
        refine J_bipush (10) dX7_press_42 rfl ?_
        refine J_cV2r (mc := mX7_of) hM.1 (by decide) rfl dX7_press_44 mlX7_34 okX7_of (kX7_of S (fX7_begins I o) o x 10 hM (jofv (jisB (jbegI hI) h1) (k := 10) rfl (by decide))) (Nat.le_of_ble_eq_true rfl) (Nat.le_of_ble_eq_true rfl) (Nat.le_of_ble_eq_true rfl) (Nat.le_of_ble_eq_true rfl) ?_
        refine J_icmp_le (tgt := 53) dX7_press_47 (by decide) (fun h4 => ?_) (fun h4 => ?_)
        · skip
          refine J_aload_n dX7_press_53 rfl rfl ?_
          refine J_iload_n dX7_press_54 rfl ?_
          refine J_iconst (1) dX7_press_55 rfl ?_
          refine J_cV2r (mc := mX7_of) hM.1 (by decide) rfl dX7_press_56 mlX7_34 okX7_of (kX7_of S (fX7_begins I o) o x 1 hM (jofv (jisB (jbegI hI) h1) (k := 1) rfl (by decide))) (Nat.le_of_ble_eq_true rfl) (Nat.le_of_ble_eq_true rfl) (Nat.le_of_ble_eq_true rfl) (Nat.le_of_ble_eq_true rfl) ?_
          refine J_istore_n dX7_press_59 (Nat.le_of_ble_eq_true rfl) ?_
          refine J_aload_n dX7_press_60 rfl rfl ?_
          refine J_iload_n dX7_press_61 rfl ?_
          refine J_iconst (1) dX7_press_62 rfl ?_
          refine J_iload_n dX7_press_63 rfl ?_
          refine J_cV3 (mc := mX7_lays) hM.1 (by decide) rfl dX7_press_64 mlX7_52 okX7_lays (kX7_lays S (fX7_begins I o) o x 1 y hM (jofv (jisB (jbegI hI) h1) (k := 1) rfl (by decide))) (Nat.le_of_ble_eq_true rfl) (Nat.le_of_ble_eq_true rfl) (Nat.le_of_ble_eq_true rfl) (Nat.le_of_ble_eq_true rfl) ?_
          refine J_aload_n dX7_press_67 rfl rfl ?_
          refine J_iload_n dX7_press_68 rfl ?_
          refine J_cV1r (mc := mX7_acted) hM.1 (by decide) rfl dX7_press_69 mlX7_103 okX7_acted (kX7_acted S (fX7_lays (fX7_begins I o) o x 1 y) o (fX7_of (fX7_begins I o) o x 1) hM (jst1 hs jOn.rf.lay)) (Nat.le_of_ble_eq_true rfl) (Nat.le_of_ble_eq_true rfl) (Nat.le_of_ble_eq_true rfl) (Nat.le_of_ble_eq_true rfl) ?_
          exact J_iret (ty := .int) hR dX7_press_72 rfl rfl (Nat.le_of_ble_eq_true rfl) (Nat.le_of_ble_eq_true rfl) (jRes_f (by first | (simp only [fX7_press, if_neg h1, if_neg h2, if_pos h3, if_pos h4]; done) | rfl | (simp only [fX7_press, if_neg h1, if_neg h2, if_pos h3, if_pos h4]; rfl)))
        · skip
          refine J_ldc (-2000000002) dX7_press_50 jw_790 ?_
          exact J_iret (ty := .int) hR dX7_press_52 rfl rfl (Nat.le_of_ble_eq_true rfl) (Nat.le_of_ble_eq_true rfl) (jRes_f (by first | (simp only [fX7_press, if_neg h1, if_neg h2, if_pos h3, if_neg h4]; done) | rfl | (simp only [fX7_press, if_neg h1, if_neg h2, if_pos h3, if_neg h4]; rfl)))
    · skip
      refine J_ldc (-2000000001) dX7_press_26 jw_760 ?_
      exact J_iret (ty := .int) hR dX7_press_28 rfl rfl (Nat.le_of_ble_eq_true rfl) (Nat.le_of_ble_eq_true rfl) (jRes_f (by first | (simp only [fX7_press, if_neg h1, if_pos h2]; done) | rfl | (simp only [fX7_press, if_neg h1, if_pos h2]; rfl)))
def fX7_inspect (I : jI) (o : Nat) (x : Int32) (y : Int32) : Int32 × jI :=
  ((fX7_acted ((fX7_inspects (fX7_begins I o) o x y).2) o ((fX7_inspects (fX7_begins I o) o x y).1)).1, (fX7_acted ((fX7_inspects (fX7_begins I o) o x y).2) o ((fX7_inspects (fX7_begins I o) o x y).1)).2)
set_option maxRecDepth 100000 in
set_option maxHeartbeats 4000000 in
theorem kX7_inspect (S : jX) (I : jI) (o : Nat) (x : Int32) (y : Int32) (hM : jModel S o) (hI : jMInv I o) (hs : jStates I o) : jM (4, 0, 0) mX7_inspect [.ref o, .int x, .int y] S I (jRes (some (.int (fX7_inspect I o x y).1)) S (fX7_inspect I o x y).2) := by
  refine jM.of (ls := [.ref o, .int x, .int y]) (by decide) (Nat.le_of_ble_eq_true rfl) (by intro v hv; simp only [List.mem_cons, List.not_mem_nil, or_false] at hv; rcases hv with rfl | rfl | rfl <;> rfl) rfl (fun G hR => ?_)
  refine J_aload_n dX7_inspect_0 rfl rfl ?_
  refine J_cV0 (mc := mX7_begins) hM.1 (by decide) rfl dX7_inspect_1 mlX7_97 okX7_begins (kX7_begins S I o hM) (Nat.le_of_ble_eq_true rfl) (Nat.le_of_ble_eq_true rfl) (Nat.le_of_ble_eq_true rfl) (Nat.le_of_ble_eq_true rfl) ?_
  refine J_aload_n dX7_inspect_4 rfl rfl ?_
  refine J_aload_n dX7_inspect_5 rfl rfl ?_
  refine J_iload_n dX7_inspect_6 rfl ?_
  refine J_iload_n dX7_inspect_7 rfl ?_
  refine J_cV2r (mc := mX7_inspects) hM.1 (by decide) rfl dX7_inspect_8 mlX7_106 okX7_inspects (kX7_inspects S (fX7_begins I o) o x y hM (jbegI hI)) (Nat.le_of_ble_eq_true rfl) (Nat.le_of_ble_eq_true rfl) (Nat.le_of_ble_eq_true rfl) (Nat.le_of_ble_eq_true rfl) ?_
  refine J_cV1r (mc := mX7_acted) hM.1 (by decide) rfl dX7_inspect_11 mlX7_103 okX7_acted (kX7_acted S ((fX7_inspects (fX7_begins I o) o x y).2) o ((fX7_inspects (fX7_begins I o) o x y).1) hM (jst1 hs jOn.inspects)) (Nat.le_of_ble_eq_true rfl) (Nat.le_of_ble_eq_true rfl) (Nat.le_of_ble_eq_true rfl) (Nat.le_of_ble_eq_true rfl) ?_
  exact J_iret (ty := .int) hR dX7_inspect_14 rfl rfl (Nat.le_of_ble_eq_true rfl) (Nat.le_of_ble_eq_true rfl) (jRes_f (by first | (simp only [fX7_inspect]; done) | rfl | (simp only [fX7_inspect]; rfl)))
def fX7_fire (I : jI) (o : Nat) (x : Int32) : Int32 × jI :=
  ((fX7_acted ((fX7_fires (fX7_begins I o) o x).2) o ((fX7_fires (fX7_begins I o) o x).1)).1, (fX7_acted ((fX7_fires (fX7_begins I o) o x).2) o ((fX7_fires (fX7_begins I o) o x).1)).2)
set_option maxRecDepth 100000 in
set_option maxHeartbeats 4000000 in
theorem kX7_fire (S : jX) (I : jI) (o : Nat) (x : Int32) (hM : jModel S o) (hI : jMInv I o) (hs : jStates I o) : jM (4, 0, 0) mX7_fire [.ref o, .int x] S I (jRes (some (.int (fX7_fire I o x).1)) S (fX7_fire I o x).2) := by
  refine jM.of (ls := [.ref o, .int x]) (by decide) (Nat.le_of_ble_eq_true rfl) (by intro v hv; simp only [List.mem_cons, List.not_mem_nil, or_false] at hv; rcases hv with rfl | rfl <;> rfl) rfl (fun G hR => ?_)
  refine J_aload_n dX7_fire_0 rfl rfl ?_
  refine J_cV0 (mc := mX7_begins) hM.1 (by decide) rfl dX7_fire_1 mlX7_97 okX7_begins (kX7_begins S I o hM) (Nat.le_of_ble_eq_true rfl) (Nat.le_of_ble_eq_true rfl) (Nat.le_of_ble_eq_true rfl) (Nat.le_of_ble_eq_true rfl) ?_
  refine J_aload_n dX7_fire_4 rfl rfl ?_
  refine J_aload_n dX7_fire_5 rfl rfl ?_
  refine J_iload_n dX7_fire_6 rfl ?_
  refine J_cV1r (mc := mX7_fires) hM.1 (by decide) rfl dX7_fire_7 mlX7_109 okX7_fires (kX7_fires S (fX7_begins I o) o x hM (jbegI hI)) (Nat.le_of_ble_eq_true rfl) (Nat.le_of_ble_eq_true rfl) (Nat.le_of_ble_eq_true rfl) (Nat.le_of_ble_eq_true rfl) ?_
  refine J_cV1r (mc := mX7_acted) hM.1 (by decide) rfl dX7_fire_10 mlX7_103 okX7_acted (kX7_acted S ((fX7_fires (fX7_begins I o) o x).2) o ((fX7_fires (fX7_begins I o) o x).1) hM (jst1 hs jOn.fires)) (Nat.le_of_ble_eq_true rfl) (Nat.le_of_ble_eq_true rfl) (Nat.le_of_ble_eq_true rfl) (Nat.le_of_ble_eq_true rfl) ?_
  exact J_iret (ty := .int) hR dX7_fire_13 rfl rfl (Nat.le_of_ble_eq_true rfl) (Nat.le_of_ble_eq_true rfl) (jRes_f (by first | (simp only [fX7_fire]; done) | rfl | (simp only [fX7_fire]; rfl)))
def fX7_out (I : jI) (o : Nat) (x : Int32) : Int32 × jI :=
  ((fX7_acted ((fX7_puts (fX7_begins I o) o x).2) o ((fX7_puts (fX7_begins I o) o x).1)).1, (fX7_acted ((fX7_puts (fX7_begins I o) o x).2) o ((fX7_puts (fX7_begins I o) o x).1)).2)
set_option maxRecDepth 100000 in
set_option maxHeartbeats 4000000 in
theorem kX7_out (S : jX) (I : jI) (o : Nat) (x : Int32) (hM : jModel S o) (hI : jMInv I o) (hs : jStates I o) : jM (3, 0, 0) mX7_out [.ref o, .int x] S I (jRes (some (.int (fX7_out I o x).1)) S (fX7_out I o x).2) := by
  refine jM.of (ls := [.ref o, .int x]) (by decide) (Nat.le_of_ble_eq_true rfl) (by intro v hv; simp only [List.mem_cons, List.not_mem_nil, or_false] at hv; rcases hv with rfl | rfl <;> rfl) rfl (fun G hR => ?_)
  refine J_aload_n dX7_out_0 rfl rfl ?_
  refine J_cV0 (mc := mX7_begins) hM.1 (by decide) rfl dX7_out_1 mlX7_97 okX7_begins (kX7_begins S I o hM) (Nat.le_of_ble_eq_true rfl) (Nat.le_of_ble_eq_true rfl) (Nat.le_of_ble_eq_true rfl) (Nat.le_of_ble_eq_true rfl) ?_
  refine J_aload_n dX7_out_4 rfl rfl ?_
  refine J_aload_n dX7_out_5 rfl rfl ?_
  refine J_iload_n dX7_out_6 rfl ?_
  refine J_cV1r (mc := mX7_puts) hM.1 (by decide) rfl dX7_out_7 mlX7_112 okX7_puts (kX7_puts S (fX7_begins I o) o x hM (jbegI hI)) (Nat.le_of_ble_eq_true rfl) (Nat.le_of_ble_eq_true rfl) (Nat.le_of_ble_eq_true rfl) (Nat.le_of_ble_eq_true rfl) ?_
  refine J_cV1r (mc := mX7_acted) hM.1 (by decide) rfl dX7_out_10 mlX7_103 okX7_acted (kX7_acted S ((fX7_puts (fX7_begins I o) o x).2) o ((fX7_puts (fX7_begins I o) o x).1) hM (jst1 hs jOn.puts)) (Nat.le_of_ble_eq_true rfl) (Nat.le_of_ble_eq_true rfl) (Nat.le_of_ble_eq_true rfl) (Nat.le_of_ble_eq_true rfl) ?_
  exact J_iret (ty := .int) hR dX7_out_13 rfl rfl (Nat.le_of_ble_eq_true rfl) (Nat.le_of_ble_eq_true rfl) (jRes_f (by first | (simp only [fX7_out]; done) | rfl | (simp only [fX7_out]; rfl)))
def fX7_plan (I : jI) (o : Nat) (x : Int32) (y : Int32) (z : Int32) : Int32 × jI :=
  if (fX7_isBoiler (fX7_begins I o) o x) = 0 then
    ((-2000000001), (fX7_begins I o))
  else
    if (fX7_in (fX7_begins I o) y ((fX7_begins I o) (o + 1) ((2 : Int32).toNatClampNeg)) 9999) = 0 then
      ((-2000000001), (fX7_begins I o))
    else
      if (fX7_in (fX7_begins I o) z 1 20) = 0 then
        ((-2000000001), (fX7_begins I o))
      else
        if y = ((fX7_begins I o) (o + 1) ((2 : Int32).toNatClampNeg)) then
          if (fX7_of (fX7_begins I o) o x 3) = 1 then
            ((-2000000002), (fX7_begins I o))
          else
            ((fX7_acted (fX7_lays (fX7_lays (fX7_begins I o) o x 7 y) o x 8 ((y + z) - 1)) o (fX7_of (fX7_lays (fX7_lays (fX7_begins I o) o x 7 y) o x 8 ((y + z) - 1)) o x 8)).1, (fX7_acted (fX7_lays (fX7_lays (fX7_begins I o) o x 7 y) o x 8 ((y + z) - 1)) o (fX7_of (fX7_lays (fX7_lays (fX7_begins I o) o x 7 y) o x 8 ((y + z) - 1)) o x 8)).2)
        else
          ((fX7_acted (fX7_lays (fX7_lays (fX7_begins I o) o x 7 y) o x 8 ((y + z) - 1)) o (fX7_of (fX7_lays (fX7_lays (fX7_begins I o) o x 7 y) o x 8 ((y + z) - 1)) o x 8)).1, (fX7_acted (fX7_lays (fX7_lays (fX7_begins I o) o x 7 y) o x 8 ((y + z) - 1)) o (fX7_of (fX7_lays (fX7_lays (fX7_begins I o) o x 7 y) o x 8 ((y + z) - 1)) o x 8)).2)
set_option maxRecDepth 100000 in
set_option maxHeartbeats 4000000 in
theorem kX7_plan (S : jX) (I : jI) (o : Nat) (x : Int32) (y : Int32) (z : Int32) (hM : jModel S o) (hI : jMInv I o) (hs : jStates I o) : jM (2, 0, 0) mX7_plan [.ref o, .int x, .int y, .int z] S I (jRes (some (.int (fX7_plan I o x y z).1)) S (fX7_plan I o x y z).2) := by
  refine jM.of (ls := [.ref o, .int x, .int y, .int z]) (by decide) (Nat.le_of_ble_eq_true rfl) (by intro v hv; simp only [List.mem_cons, List.not_mem_nil, or_false] at hv; rcases hv with rfl | rfl | rfl | rfl <;> rfl) rfl (fun G hR => ?_)
  refine J_aload_n dX7_plan_0 rfl rfl ?_
  refine J_cV0 (mc := mX7_begins) hM.1 (by decide) rfl dX7_plan_1 mlX7_97 okX7_begins (kX7_begins S I o hM) (Nat.le_of_ble_eq_true rfl) (Nat.le_of_ble_eq_true rfl) (Nat.le_of_ble_eq_true rfl) (Nat.le_of_ble_eq_true rfl) ?_
  refine J_aload_n dX7_plan_4 rfl rfl ?_
  refine J_iload_n dX7_plan_5 rfl ?_
  refine J_cV1r (mc := mX7_isBoiler) hM.1 (by decide) rfl dX7_plan_6 mlX7_67 okX7_isBoiler (kX7_isBoiler S (fX7_begins I o) o x hM) (Nat.le_of_ble_eq_true rfl) (Nat.le_of_ble_eq_true rfl) (Nat.le_of_ble_eq_true rfl) (Nat.le_of_ble_eq_true rfl) ?_
  refine J_if_eq (tgt := 38) dX7_plan_9 (by decide) (fun h1 => ?_) (fun h1 => ?_)
  · skip
    refine J_ldc (-2000000001) dX7_plan_38 jw_760 ?_
    exact J_iret (ty := .int) hR dX7_plan_40 rfl rfl (Nat.le_of_ble_eq_true rfl) (Nat.le_of_ble_eq_true rfl) (jRes_f (by first | (simp only [fX7_plan, if_pos h1]; done) | rfl | (simp only [fX7_plan, if_pos h1]; rfl)))
  · skip
    refine J_iload_n dX7_plan_12 rfl ?_
    refine J_aload_n dX7_plan_13 rfl rfl ?_
    refine J_getR dX7_plan_14 flX7_7 rfl hM.1 hM.r0 ?_
    refine J_iconst (2) dX7_plan_17 rfl ?_
    refine J_iaload dX7_plan_18 hM.a0 (by unfold vp_in; decide) ?_
    refine J_sipush (9999) dX7_plan_19 rfl ?_
    refine J_cS3r (mc := mX7_in) dX7_plan_22 mlX7_30 okX7_in (kX7_in S (fX7_begins I o) y ((fX7_begins I o) (o + 1) ((2 : Int32).toNatClampNeg)) 9999 ) (Nat.le_of_ble_eq_true rfl) (Nat.le_of_ble_eq_true rfl) (Nat.le_of_ble_eq_true rfl) (Nat.le_of_ble_eq_true rfl) ?_
    refine J_if_eq (tgt := 38) dX7_plan_25 (by decide) (fun h2 => ?_) (fun h2 => ?_)
    · skip
      refine J_ldc (-2000000001) dX7_plan_38 jw_760 ?_
      exact J_iret (ty := .int) hR dX7_plan_40 rfl rfl (Nat.le_of_ble_eq_true rfl) (Nat.le_of_ble_eq_true rfl) (jRes_f (by first | (simp only [fX7_plan, if_neg h1, if_pos h2]; done) | rfl | (simp only [fX7_plan, if_neg h1, if_pos h2]; rfl)))
    · skip
      refine J_iload_n dX7_plan_28 rfl ?_
      refine J_iconst (1) dX7_plan_29 rfl ?_
      refine J_bipush (20) dX7_plan_30 rfl ?_
      refine J_cS3r (mc := mX7_in) dX7_plan_32 mlX7_30 okX7_in (kX7_in S (fX7_begins I o) z 1 20 ) (Nat.le_of_ble_eq_true rfl) (Nat.le_of_ble_eq_true rfl) (Nat.le_of_ble_eq_true rfl) (Nat.le_of_ble_eq_true rfl) ?_
      refine J_if_ne (tgt := 41) dX7_plan_35 (by decide) (fun h3 => ?_) (fun h3 => ?_)
      · skip
        refine J_iload_n dX7_plan_41 rfl ?_
        refine J_aload_n dX7_plan_42 rfl rfl ?_
        refine J_getR dX7_plan_43 flX7_7 rfl hM.1 hM.r0 ?_
        refine J_iconst (2) dX7_plan_46 rfl ?_
        refine J_iaload dX7_plan_47 hM.a0 (by unfold vp_in; decide) ?_
        refine J_icmp_ne (tgt := 64) dX7_plan_48 (by decide) (fun h4 => ?_) (fun h4 => ?_)
        · skip
          refine J_aload_n dX7_plan_64 rfl rfl ?_
          refine J_iload_n dX7_plan_65 rfl ?_
          refine J_bipush (7) dX7_plan_66 rfl ?_
          refine J_iload_n dX7_plan_68 rfl ?_
          refine J_cV3 (mc := mX7_lays) hM.1 (by decide) rfl dX7_plan_69 mlX7_52 okX7_lays (kX7_lays S (fX7_begins I o) o x 7 y hM (jofv (jisB (jbegI hI) h1) (k := 7) rfl (by decide))) (Nat.le_of_ble_eq_true rfl) (Nat.le_of_ble_eq_true rfl) (Nat.le_of_ble_eq_true rfl) (Nat.le_of_ble_eq_true rfl) ?_
          refine J_aload_n dX7_plan_72 rfl rfl ?_
          refine J_iload_n dX7_plan_73 rfl ?_
          refine J_bipush (8) dX7_plan_74 rfl ?_
          refine J_iload_n dX7_plan_76 rfl ?_
          refine J_iload_n dX7_plan_77 rfl ?_
          refine J_iadd dX7_plan_78 ?_
          refine J_iconst (1) dX7_plan_79 rfl ?_
          refine J_isub dX7_plan_80 ?_
          refine J_cV3 (mc := mX7_lays) hM.1 (by decide) rfl dX7_plan_81 mlX7_52 okX7_lays (kX7_lays S (fX7_lays (fX7_begins I o) o x 7 y) o x 8 ((y + z) - 1) hM (jofv (jisB (jbegI hI) h1) (k := 8) rfl (by decide))) (Nat.le_of_ble_eq_true rfl) (Nat.le_of_ble_eq_true rfl) (Nat.le_of_ble_eq_true rfl) (Nat.le_of_ble_eq_true rfl) ?_
          refine J_aload_n dX7_plan_84 rfl rfl ?_
          refine J_aload_n dX7_plan_85 rfl rfl ?_
          refine J_iload_n dX7_plan_86 rfl ?_
          refine J_bipush (8) dX7_plan_87 rfl ?_
          refine J_cV2r (mc := mX7_of) hM.1 (by decide) rfl dX7_plan_89 mlX7_34 okX7_of (kX7_of S (fX7_lays (fX7_lays (fX7_begins I o) o x 7 y) o x 8 ((y + z) - 1)) o x 8 hM (jofv (jisB (jbegI hI) h1) (k := 8) rfl (by decide))) (Nat.le_of_ble_eq_true rfl) (Nat.le_of_ble_eq_true rfl) (Nat.le_of_ble_eq_true rfl) (Nat.le_of_ble_eq_true rfl) ?_
          refine J_cV1r (mc := mX7_acted) hM.1 (by decide) rfl dX7_plan_92 mlX7_103 okX7_acted (kX7_acted S (fX7_lays (fX7_lays (fX7_begins I o) o x 7 y) o x 8 ((y + z) - 1)) o (fX7_of (fX7_lays (fX7_lays (fX7_begins I o) o x 7 y) o x 8 ((y + z) - 1)) o x 8) hM (jst1 hs jOn.rf.lay.lay)) (Nat.le_of_ble_eq_true rfl) (Nat.le_of_ble_eq_true rfl) (Nat.le_of_ble_eq_true rfl) (Nat.le_of_ble_eq_true rfl) ?_
          exact J_iret (ty := .int) hR dX7_plan_95 rfl rfl (Nat.le_of_ble_eq_true rfl) (Nat.le_of_ble_eq_true rfl) (jRes_f (by first | (simp only [fX7_plan, if_neg h1, if_neg h2, if_neg h3, if_neg h4]; done) | rfl | (simp only [fX7_plan, if_neg h1, if_neg h2, if_neg h3, if_neg h4]; rfl)))
        · skip
          refine J_aload_n dX7_plan_51 rfl rfl ?_
          refine J_iload_n dX7_plan_52 rfl ?_
          refine J_iconst (3) dX7_plan_53 rfl ?_
          refine J_cV2r (mc := mX7_of) hM.1 (by decide) rfl dX7_plan_54 mlX7_34 okX7_of (kX7_of S (fX7_begins I o) o x 3 hM (jofv (jisB (jbegI hI) h1) (k := 3) rfl (by decide))) (Nat.le_of_ble_eq_true rfl) (Nat.le_of_ble_eq_true rfl) (Nat.le_of_ble_eq_true rfl) (Nat.le_of_ble_eq_true rfl) ?_
          refine J_iconst (1) dX7_plan_57 rfl ?_
          refine J_icmp_ne (tgt := 64) dX7_plan_58 (by decide) (fun h5 => ?_) (fun h5 => ?_)
          · skip
            refine J_aload_n dX7_plan_64 rfl rfl ?_
            refine J_iload_n dX7_plan_65 rfl ?_
            refine J_bipush (7) dX7_plan_66 rfl ?_
            refine J_iload_n dX7_plan_68 rfl ?_
            refine J_cV3 (mc := mX7_lays) hM.1 (by decide) rfl dX7_plan_69 mlX7_52 okX7_lays (kX7_lays S (fX7_begins I o) o x 7 y hM (jofv (jisB (jbegI hI) h1) (k := 7) rfl (by decide))) (Nat.le_of_ble_eq_true rfl) (Nat.le_of_ble_eq_true rfl) (Nat.le_of_ble_eq_true rfl) (Nat.le_of_ble_eq_true rfl) ?_
            refine J_aload_n dX7_plan_72 rfl rfl ?_
            refine J_iload_n dX7_plan_73 rfl ?_
            refine J_bipush (8) dX7_plan_74 rfl ?_
            refine J_iload_n dX7_plan_76 rfl ?_
            refine J_iload_n dX7_plan_77 rfl ?_
            refine J_iadd dX7_plan_78 ?_
            refine J_iconst (1) dX7_plan_79 rfl ?_
            refine J_isub dX7_plan_80 ?_
            refine J_cV3 (mc := mX7_lays) hM.1 (by decide) rfl dX7_plan_81 mlX7_52 okX7_lays (kX7_lays S (fX7_lays (fX7_begins I o) o x 7 y) o x 8 ((y + z) - 1) hM (jofv (jisB (jbegI hI) h1) (k := 8) rfl (by decide))) (Nat.le_of_ble_eq_true rfl) (Nat.le_of_ble_eq_true rfl) (Nat.le_of_ble_eq_true rfl) (Nat.le_of_ble_eq_true rfl) ?_
            refine J_aload_n dX7_plan_84 rfl rfl ?_
            refine J_aload_n dX7_plan_85 rfl rfl ?_
            refine J_iload_n dX7_plan_86 rfl ?_
            refine J_bipush (8) dX7_plan_87 rfl ?_
            refine J_cV2r (mc := mX7_of) hM.1 (by decide) rfl dX7_plan_89 mlX7_34 okX7_of (kX7_of S (fX7_lays (fX7_lays (fX7_begins I o) o x 7 y) o x 8 ((y + z) - 1)) o x 8 hM (jofv (jisB (jbegI hI) h1) (k := 8) rfl (by decide))) (Nat.le_of_ble_eq_true rfl) (Nat.le_of_ble_eq_true rfl) (Nat.le_of_ble_eq_true rfl) (Nat.le_of_ble_eq_true rfl) ?_
            refine J_cV1r (mc := mX7_acted) hM.1 (by decide) rfl dX7_plan_92 mlX7_103 okX7_acted (kX7_acted S (fX7_lays (fX7_lays (fX7_begins I o) o x 7 y) o x 8 ((y + z) - 1)) o (fX7_of (fX7_lays (fX7_lays (fX7_begins I o) o x 7 y) o x 8 ((y + z) - 1)) o x 8) hM (jst1 hs jOn.rf.lay.lay)) (Nat.le_of_ble_eq_true rfl) (Nat.le_of_ble_eq_true rfl) (Nat.le_of_ble_eq_true rfl) (Nat.le_of_ble_eq_true rfl) ?_
            exact J_iret (ty := .int) hR dX7_plan_95 rfl rfl (Nat.le_of_ble_eq_true rfl) (Nat.le_of_ble_eq_true rfl) (jRes_f (by first | (simp only [fX7_plan, if_neg h1, if_neg h2, if_neg h3, if_pos h4, if_neg h5]; done) | rfl | (simp only [fX7_plan, if_neg h1, if_neg h2, if_neg h3, if_pos h4, if_neg h5]; rfl)))
          · skip
            refine J_ldc (-2000000002) dX7_plan_61 jw_790 ?_
            exact J_iret (ty := .int) hR dX7_plan_63 rfl rfl (Nat.le_of_ble_eq_true rfl) (Nat.le_of_ble_eq_true rfl) (jRes_f (by first | (simp only [fX7_plan, if_neg h1, if_neg h2, if_neg h3, if_pos h4, if_pos h5]; done) | rfl | (simp only [fX7_plan, if_neg h1, if_neg h2, if_neg h3, if_pos h4, if_pos h5]; rfl)))
      · skip
        refine J_ldc (-2000000001) dX7_plan_38 jw_760 ?_
        exact J_iret (ty := .int) hR dX7_plan_40 rfl rfl (Nat.le_of_ble_eq_true rfl) (Nat.le_of_ble_eq_true rfl) (jRes_f (by first | (simp only [fX7_plan, if_neg h1, if_neg h2, if_pos h3]; done) | rfl | (simp only [fX7_plan, if_neg h1, if_neg h2, if_pos h3]; rfl)))
def fX7_repair (I : jI) (o : Nat) (x : Int32) : Int32 × jI :=
  ((fX7_acted ((fX7_sends (fX7_begins I o) o x).2) o ((fX7_sends (fX7_begins I o) o x).1)).1, (fX7_acted ((fX7_sends (fX7_begins I o) o x).2) o ((fX7_sends (fX7_begins I o) o x).1)).2)
set_option maxRecDepth 100000 in
set_option maxHeartbeats 4000000 in
theorem kX7_repair (S : jX) (I : jI) (o : Nat) (x : Int32) (hM : jModel S o) (hI : jMInv I o) (hs : jStates I o) : jM (3, 0, 0) mX7_repair [.ref o, .int x] S I (jRes (some (.int (fX7_repair I o x).1)) S (fX7_repair I o x).2) := by
  refine jM.of (ls := [.ref o, .int x]) (by decide) (Nat.le_of_ble_eq_true rfl) (by intro v hv; simp only [List.mem_cons, List.not_mem_nil, or_false] at hv; rcases hv with rfl | rfl <;> rfl) rfl (fun G hR => ?_)
  refine J_aload_n dX7_repair_0 rfl rfl ?_
  refine J_cV0 (mc := mX7_begins) hM.1 (by decide) rfl dX7_repair_1 mlX7_97 okX7_begins (kX7_begins S I o hM) (Nat.le_of_ble_eq_true rfl) (Nat.le_of_ble_eq_true rfl) (Nat.le_of_ble_eq_true rfl) (Nat.le_of_ble_eq_true rfl) ?_
  refine J_aload_n dX7_repair_4 rfl rfl ?_
  refine J_aload_n dX7_repair_5 rfl rfl ?_
  refine J_iload_n dX7_repair_6 rfl ?_
  refine J_cV1r (mc := mX7_sends) hM.1 (by decide) rfl dX7_repair_7 mlX7_115 okX7_sends (kX7_sends S (fX7_begins I o) o x hM (jbegI hI)) (Nat.le_of_ble_eq_true rfl) (Nat.le_of_ble_eq_true rfl) (Nat.le_of_ble_eq_true rfl) (Nat.le_of_ble_eq_true rfl) ?_
  refine J_cV1r (mc := mX7_acted) hM.1 (by decide) rfl dX7_repair_10 mlX7_103 okX7_acted (kX7_acted S ((fX7_sends (fX7_begins I o) o x).2) o ((fX7_sends (fX7_begins I o) o x).1) hM (jst1 hs jOn.sends)) (Nat.le_of_ble_eq_true rfl) (Nat.le_of_ble_eq_true rfl) (Nat.le_of_ble_eq_true rfl) (Nat.le_of_ble_eq_true rfl) ?_
  exact J_iret (ty := .int) hR dX7_repair_13 rfl rfl (Nat.le_of_ble_eq_true rfl) (Nat.le_of_ble_eq_true rfl) (jRes_f (by first | (simp only [fX7_repair]; done) | rfl | (simp only [fX7_repair]; rfl)))
def fX7_pass (I : jI) (o : Nat) (x : Int32) : Int32 × jI :=
  ((fX7_acted ((fX7_passes (fX7_begins I o) o x).2) o ((fX7_passes (fX7_begins I o) o x).1)).1, (fX7_acted ((fX7_passes (fX7_begins I o) o x).2) o ((fX7_passes (fX7_begins I o) o x).1)).2)
set_option maxRecDepth 100000 in
set_option maxHeartbeats 4000000 in
theorem kX7_pass (S : jX) (I : jI) (o : Nat) (x : Int32) (hM : jModel S o) (hI : jMInv I o) (hs : jStates I o) : jM (6, 0, 0) mX7_pass [.ref o, .int x] S I (jRes (some (.int (fX7_pass I o x).1)) S (fX7_pass I o x).2) := by
  refine jM.of (ls := [.ref o, .int x]) (by decide) (Nat.le_of_ble_eq_true rfl) (by intro v hv; simp only [List.mem_cons, List.not_mem_nil, or_false] at hv; rcases hv with rfl | rfl <;> rfl) rfl (fun G hR => ?_)
  refine J_aload_n dX7_pass_0 rfl rfl ?_
  refine J_cV0 (mc := mX7_begins) hM.1 (by decide) rfl dX7_pass_1 mlX7_97 okX7_begins (kX7_begins S I o hM) (Nat.le_of_ble_eq_true rfl) (Nat.le_of_ble_eq_true rfl) (Nat.le_of_ble_eq_true rfl) (Nat.le_of_ble_eq_true rfl) ?_
  refine J_aload_n dX7_pass_4 rfl rfl ?_
  refine J_aload_n dX7_pass_5 rfl rfl ?_
  refine J_iload_n dX7_pass_6 rfl ?_
  refine J_cV1r (mc := mX7_passes) hM.1 (by decide) rfl dX7_pass_7 mlX7_118 okX7_passes (kX7_passes S (fX7_begins I o) o x hM (jbegI hI)) (Nat.le_of_ble_eq_true rfl) (Nat.le_of_ble_eq_true rfl) (Nat.le_of_ble_eq_true rfl) (Nat.le_of_ble_eq_true rfl) ?_
  refine J_cV1r (mc := mX7_acted) hM.1 (by decide) rfl dX7_pass_10 mlX7_103 okX7_acted (kX7_acted S ((fX7_passes (fX7_begins I o) o x).2) o ((fX7_passes (fX7_begins I o) o x).1) hM (jst1 hs (jOn.passes (jbegI hI)))) (Nat.le_of_ble_eq_true rfl) (Nat.le_of_ble_eq_true rfl) (Nat.le_of_ble_eq_true rfl) (Nat.le_of_ble_eq_true rfl) ?_
  exact J_iret (ty := .int) hR dX7_pass_13 rfl rfl (Nat.le_of_ble_eq_true rfl) (Nat.le_of_ble_eq_true rfl) (jRes_f (by first | (simp only [fX7_pass]; done) | rfl | (simp only [fX7_pass]; rfl)))
def fX7_set (I : jI) (o : Nat) (x : Int32) (y : Int32) : Int32 × jI :=
  if (fX7_in (fX7_begins I o) x 0 3) = 0 then
    ((-2000000001), (fX7_begins I o))
  else
    if 2 ≤ x then
      if (fX7_in (fX7_begins I o) y 0 99) = 0 then
        ((-2000000001), (fX7_begins I o))
      else
        ((fX7_acted (jset (fX7_begins I o) (o + 1) ((7 + x)).toNatClampNeg y) o ((fX7_begins I o) (o + 1) ((7 + x)).toNatClampNeg)).1, (fX7_acted (jset (fX7_begins I o) (o + 1) ((7 + x)).toNatClampNeg y) o ((fX7_begins I o) (o + 1) ((7 + x)).toNatClampNeg)).2)
    else
      if (fX7_in (fX7_begins I o) y 0 200) = 0 then
        ((-2000000001), (fX7_begins I o))
      else
        ((fX7_acted (jset (fX7_begins I o) (o + 1) ((7 + x)).toNatClampNeg y) o ((fX7_begins I o) (o + 1) ((7 + x)).toNatClampNeg)).1, (fX7_acted (jset (fX7_begins I o) (o + 1) ((7 + x)).toNatClampNeg y) o ((fX7_begins I o) (o + 1) ((7 + x)).toNatClampNeg)).2)
set_option maxRecDepth 100000 in
set_option maxHeartbeats 4000000 in
theorem kX7_set (S : jX) (I : jI) (o : Nat) (x : Int32) (y : Int32) (hM : jModel S o) (hI : jMInv I o) (hs : jStates I o) : jM (2, 0, 0) mX7_set [.ref o, .int x, .int y] S I (jRes (some (.int (fX7_set I o x y).1)) S (fX7_set I o x y).2) := by
  refine jM.of (ls := [.ref o, .int x, .int y, .long 0]) (by decide) (Nat.le_of_ble_eq_true rfl) (by intro v hv; simp only [List.mem_cons, List.not_mem_nil, or_false] at hv; rcases hv with rfl | rfl | rfl <;> rfl) rfl (fun G hR => ?_)
  refine J_aload_n dX7_set_0 rfl rfl ?_
  refine J_cV0 (mc := mX7_begins) hM.1 (by decide) rfl dX7_set_1 mlX7_97 okX7_begins (kX7_begins S I o hM) (Nat.le_of_ble_eq_true rfl) (Nat.le_of_ble_eq_true rfl) (Nat.le_of_ble_eq_true rfl) (Nat.le_of_ble_eq_true rfl) ?_
  refine J_iload_n dX7_set_4 rfl ?_
  refine J_iconst (0) dX7_set_5 rfl ?_
  refine J_iconst (3) dX7_set_6 rfl ?_
  refine J_cS3r (mc := mX7_in) dX7_set_7 mlX7_30 okX7_in (kX7_in S (fX7_begins I o) x 0 3 ) (Nat.le_of_ble_eq_true rfl) (Nat.le_of_ble_eq_true rfl) (Nat.le_of_ble_eq_true rfl) (Nat.le_of_ble_eq_true rfl) ?_
  refine J_if_eq (tgt := 34) dX7_set_10 (by decide) (fun h1 => ?_) (fun h1 => ?_)
  · skip
    refine J_ldc (-2000000001) dX7_set_34 jw_760 ?_
    exact J_iret (ty := .int) hR dX7_set_36 rfl rfl (Nat.le_of_ble_eq_true rfl) (Nat.le_of_ble_eq_true rfl) (jRes_f (by first | (simp only [fX7_set, if_pos h1]; done) | rfl | (simp only [fX7_set, if_pos h1]; rfl)))
  · skip
    refine J_iload_n dX7_set_13 rfl ?_
    refine J_iconst (0) dX7_set_14 rfl ?_
    refine J_iload_n dX7_set_15 rfl ?_
    refine J_iconst (2) dX7_set_16 rfl ?_
    refine J_icmp_ge (tgt := 26) dX7_set_17 (by decide) (fun h2 => ?_) (fun h2 => ?_)
    · skip
      refine J_bipush (99) dX7_set_26 rfl ?_
      refine J_cS3r (mc := mX7_in) dX7_set_28 mlX7_30 okX7_in (kX7_in S (fX7_begins I o) y 0 99 ) (Nat.le_of_ble_eq_true rfl) (Nat.le_of_ble_eq_true rfl) (Nat.le_of_ble_eq_true rfl) (Nat.le_of_ble_eq_true rfl) ?_
      refine J_if_ne (tgt := 37) dX7_set_31 (by decide) (fun h3 => ?_) (fun h3 => ?_)
      · skip
        refine J_aload_n dX7_set_37 rfl rfl ?_
        refine J_getR dX7_set_38 flX7_7 rfl hM.1 hM.r0 ?_
        refine J_bipush (7) dX7_set_41 rfl ?_
        refine J_iload_n dX7_set_43 rfl ?_
        refine J_iadd dX7_set_44 ?_
        refine J_iaload dX7_set_45 hM.a0 (jv7_3 h1) ?_
        refine J_istore_n dX7_set_46 (Nat.le_of_ble_eq_true rfl) ?_
        refine J_aload_n dX7_set_47 rfl rfl ?_
        refine J_getR dX7_set_48 flX7_7 rfl hM.1 hM.r0 ?_
        refine J_bipush (7) dX7_set_51 rfl ?_
        refine J_iload_n dX7_set_53 rfl ?_
        refine J_iadd dX7_set_54 ?_
        refine J_iload_n dX7_set_55 rfl ?_
        refine J_iastore dX7_set_56 hM.a0 (jv7_3 h1) ?_
        refine J_aload_n dX7_set_57 rfl rfl ?_
        refine J_iload_n dX7_set_58 rfl ?_
        refine J_cV1r (mc := mX7_acted) hM.1 (by decide) rfl dX7_set_59 mlX7_103 okX7_acted (kX7_acted S (jset (fX7_begins I o) (o + 1) ((7 + x)).toNatClampNeg y) o ((fX7_begins I o) (o + 1) ((7 + x)).toNatClampNeg) hM (jst1 hs jOn.rf.put)) (Nat.le_of_ble_eq_true rfl) (Nat.le_of_ble_eq_true rfl) (Nat.le_of_ble_eq_true rfl) (Nat.le_of_ble_eq_true rfl) ?_
        exact J_iret (ty := .int) hR dX7_set_62 rfl rfl (Nat.le_of_ble_eq_true rfl) (Nat.le_of_ble_eq_true rfl) (jRes_f (by first | (simp only [fX7_set, if_neg h1, if_pos h2, if_neg h3]; done) | rfl | (simp only [fX7_set, if_neg h1, if_pos h2, if_neg h3]; rfl)))
      · skip
        refine J_ldc (-2000000001) dX7_set_34 jw_760 ?_
        exact J_iret (ty := .int) hR dX7_set_36 rfl rfl (Nat.le_of_ble_eq_true rfl) (Nat.le_of_ble_eq_true rfl) (jRes_f (by first | (simp only [fX7_set, if_neg h1, if_pos h2, if_pos h3]; done) | rfl | (simp only [fX7_set, if_neg h1, if_pos h2, if_pos h3]; rfl)))
    · skip
      refine J_sipush (200) dX7_set_20 rfl ?_
      refine J_goto (tgt := 28) dX7_set_23 (by decide) ?_
      refine J_cS3r (mc := mX7_in) dX7_set_28 mlX7_30 okX7_in (kX7_in S (fX7_begins I o) y 0 200 ) (Nat.le_of_ble_eq_true rfl) (Nat.le_of_ble_eq_true rfl) (Nat.le_of_ble_eq_true rfl) (Nat.le_of_ble_eq_true rfl) ?_
      refine J_if_ne (tgt := 37) dX7_set_31 (by decide) (fun h4 => ?_) (fun h4 => ?_)
      · skip
        refine J_aload_n dX7_set_37 rfl rfl ?_
        refine J_getR dX7_set_38 flX7_7 rfl hM.1 hM.r0 ?_
        refine J_bipush (7) dX7_set_41 rfl ?_
        refine J_iload_n dX7_set_43 rfl ?_
        refine J_iadd dX7_set_44 ?_
        refine J_iaload dX7_set_45 hM.a0 (jv7_3 h1) ?_
        refine J_istore_n dX7_set_46 (Nat.le_of_ble_eq_true rfl) ?_
        refine J_aload_n dX7_set_47 rfl rfl ?_
        refine J_getR dX7_set_48 flX7_7 rfl hM.1 hM.r0 ?_
        refine J_bipush (7) dX7_set_51 rfl ?_
        refine J_iload_n dX7_set_53 rfl ?_
        refine J_iadd dX7_set_54 ?_
        refine J_iload_n dX7_set_55 rfl ?_
        refine J_iastore dX7_set_56 hM.a0 (jv7_3 h1) ?_
        refine J_aload_n dX7_set_57 rfl rfl ?_
        refine J_iload_n dX7_set_58 rfl ?_
        refine J_cV1r (mc := mX7_acted) hM.1 (by decide) rfl dX7_set_59 mlX7_103 okX7_acted (kX7_acted S (jset (fX7_begins I o) (o + 1) ((7 + x)).toNatClampNeg y) o ((fX7_begins I o) (o + 1) ((7 + x)).toNatClampNeg) hM (jst1 hs jOn.rf.put)) (Nat.le_of_ble_eq_true rfl) (Nat.le_of_ble_eq_true rfl) (Nat.le_of_ble_eq_true rfl) (Nat.le_of_ble_eq_true rfl) ?_
        exact J_iret (ty := .int) hR dX7_set_62 rfl rfl (Nat.le_of_ble_eq_true rfl) (Nat.le_of_ble_eq_true rfl) (jRes_f (by first | (simp only [fX7_set, if_neg h1, if_neg h2, if_neg h4]; done) | rfl | (simp only [fX7_set, if_neg h1, if_neg h2, if_neg h4]; rfl)))
      · skip
        refine J_ldc (-2000000001) dX7_set_34 jw_760 ?_
        exact J_iret (ty := .int) hR dX7_set_36 rfl rfl (Nat.le_of_ble_eq_true rfl) (Nat.le_of_ble_eq_true rfl) (jRes_f (by first | (simp only [fX7_set, if_neg h1, if_neg h2, if_pos h4]; done) | rfl | (simp only [fX7_set, if_neg h1, if_neg h2, if_pos h4]; rfl)))
def fX7_fault (I : jI) (o : Nat) (x : Int32) : Int32 × jI :=
  if (fX7_in I x 0 2) = 0 then
    ((-2000000001), I)
  else
    if (fX7_doesAll (fX7_begins I o) o).1 = 0 then
      if x = 0 then
        (((fX7_returns ((fX7_doesAll (fX7_begins I o) o).2) o) o 7), (fX7_returns ((fX7_doesAll (fX7_begins I o) o).2) o))
      else
        if x = 1 then
          if ((fX7_returns ((fX7_doesAll (fX7_begins I o) o).2) o) o 10) = 0 then
            (1, (fX7_returns ((fX7_doesAll (fX7_begins I o) o).2) o))
          else
            (2, (fX7_returns ((fX7_doesAll (fX7_begins I o) o).2) o))
        else
          if ((fX7_returns ((fX7_doesAll (fX7_begins I o) o).2) o) o 10) = 0 then
            ((((fX7_returns ((fX7_doesAll (fX7_begins I o) o).2) o) o 6) - ((fX7_returns ((fX7_doesAll (fX7_begins I o) o).2) o) o 7)), (fX7_returns ((fX7_doesAll (fX7_begins I o) o).2) o))
          else
            (((fX7_returns ((fX7_doesAll (fX7_begins I o) o).2) o) o 9), (fX7_returns ((fX7_doesAll (fX7_begins I o) o).2) o))
    else
      ((-2000000004), (fX7_returns ((fX7_doesAll (fX7_begins I o) o).2) o))
set_option maxRecDepth 100000 in
set_option maxHeartbeats 4000000 in
theorem kX7_fault (S : jX) (I : jI) (o : Nat) (x : Int32) (hM : jModel S o) (hI : jMInv I o) (hL : ∃ l : Nat, l ≤ 60 ∧ I o 5 = nI l) : jM (8, 0, 0) mX7_fault [.ref o, .int x] S I (jRes (some (.int (fX7_fault I o x).1)) S (fX7_fault I o x).2) := by
  refine jM.of (ls := [.ref o, .int x, .long 0]) (by decide) (Nat.le_of_ble_eq_true rfl) (by intro v hv; simp only [List.mem_cons, List.not_mem_nil, or_false] at hv; rcases hv with rfl | rfl <;> rfl) rfl (fun G hR => ?_)
  refine J_iload_n dX7_fault_0 rfl ?_
  refine J_iconst (0) dX7_fault_1 rfl ?_
  refine J_iconst (2) dX7_fault_2 rfl ?_
  refine J_cS3r (mc := mX7_in) dX7_fault_3 mlX7_30 okX7_in (kX7_in S I x 0 2 ) (Nat.le_of_ble_eq_true rfl) (Nat.le_of_ble_eq_true rfl) (Nat.le_of_ble_eq_true rfl) (Nat.le_of_ble_eq_true rfl) ?_
  refine J_if_ne (tgt := 12) dX7_fault_6 (by decide) (fun h1 => ?_) (fun h1 => ?_)
  · skip
    refine J_aload_n dX7_fault_12 rfl rfl ?_
    refine J_cV0 (mc := mX7_begins) hM.1 (by decide) rfl dX7_fault_13 mlX7_97 okX7_begins (kX7_begins S I o hM) (Nat.le_of_ble_eq_true rfl) (Nat.le_of_ble_eq_true rfl) (Nat.le_of_ble_eq_true rfl) (Nat.le_of_ble_eq_true rfl) ?_
    refine J_aload_n dX7_fault_16 rfl rfl ?_
    refine J_cV0r (mc := mX7_doesAll) hM.1 (by decide) rfl dX7_fault_17 mlX7_179 okX7_doesAll (kX7_doesAll S (fX7_begins I o) o hM (jbegI hI) (jbegL hL)) (Nat.le_of_ble_eq_true rfl) (Nat.le_of_ble_eq_true rfl) (Nat.le_of_ble_eq_true rfl) (Nat.le_of_ble_eq_true rfl) ?_
    refine J_istore_n dX7_fault_20 (Nat.le_of_ble_eq_true rfl) ?_
    refine J_aload_n dX7_fault_21 rfl rfl ?_
    refine J_cV0 (mc := mX7_returns) hM.1 (by decide) rfl dX7_fault_22 mlX7_23 okX7_returns (kX7_returns S ((fX7_doesAll (fX7_begins I o) o).2) o hM) (Nat.le_of_ble_eq_true rfl) (Nat.le_of_ble_eq_true rfl) (Nat.le_of_ble_eq_true rfl) (Nat.le_of_ble_eq_true rfl) ?_
    refine J_iload_n dX7_fault_25 rfl ?_
    refine J_if_eq (tgt := 32) dX7_fault_26 (by decide) (fun h2 => ?_) (fun h2 => ?_)
    · skip
      refine J_iload_n dX7_fault_32 rfl ?_
      refine J_if_ne (tgt := 43) dX7_fault_33 (by decide) (fun h3 => ?_) (fun h3 => ?_)
      · skip
        refine J_iload_n dX7_fault_43 rfl ?_
        refine J_iconst (1) dX7_fault_44 rfl ?_
        refine J_icmp_ne (tgt := 63) dX7_fault_45 (by decide) (fun h4 => ?_) (fun h4 => ?_)
        · skip
          refine J_aload_n dX7_fault_63 rfl rfl ?_
          refine J_getI dX7_fault_64 flX7_144 rfl hM.1 ?_
          refine J_if_eq (tgt := 77) dX7_fault_67 (by decide) (fun h5 => ?_) (fun h5 => ?_)
          · skip
            refine J_aload_n dX7_fault_77 rfl rfl ?_
            refine J_getI dX7_fault_78 flX7_138 rfl hM.1 ?_
            refine J_aload_n dX7_fault_81 rfl rfl ?_
            refine J_getI dX7_fault_82 flX7_161 rfl hM.1 ?_
            refine J_isub dX7_fault_85 ?_
            exact J_iret (ty := .int) hR dX7_fault_86 rfl rfl (Nat.le_of_ble_eq_true rfl) (Nat.le_of_ble_eq_true rfl) (jRes_f (by first | (simp only [fX7_fault, if_neg h1, if_pos h2, if_neg h3, if_neg h4, if_pos h5]; done) | rfl | (simp only [fX7_fault, if_neg h1, if_pos h2, if_neg h3, if_neg h4, if_pos h5]; rfl)))
          · skip
            refine J_aload_n dX7_fault_70 rfl rfl ?_
            refine J_getI dX7_fault_71 flX7_176 rfl hM.1 ?_
            refine J_goto (tgt := 86) dX7_fault_74 (by decide) ?_
            exact J_iret (ty := .int) hR dX7_fault_86 rfl rfl (Nat.le_of_ble_eq_true rfl) (Nat.le_of_ble_eq_true rfl) (jRes_f (by first | (simp only [fX7_fault, if_neg h1, if_pos h2, if_neg h3, if_neg h4, if_neg h5]; done) | rfl | (simp only [fX7_fault, if_neg h1, if_pos h2, if_neg h3, if_neg h4, if_neg h5]; rfl)))
        · skip
          refine J_aload_n dX7_fault_48 rfl rfl ?_
          refine J_getI dX7_fault_49 flX7_144 rfl hM.1 ?_
          refine J_if_eq (tgt := 59) dX7_fault_52 (by decide) (fun h6 => ?_) (fun h6 => ?_)
          · skip
            refine J_iconst (1) dX7_fault_59 rfl ?_
            refine J_goto (tgt := 86) dX7_fault_60 (by decide) ?_
            exact J_iret (ty := .int) hR dX7_fault_86 rfl rfl (Nat.le_of_ble_eq_true rfl) (Nat.le_of_ble_eq_true rfl) (jRes_f (by first | (simp only [fX7_fault, if_neg h1, if_pos h2, if_neg h3, if_pos h4, if_pos h6]; done) | rfl | (simp only [fX7_fault, if_neg h1, if_pos h2, if_neg h3, if_pos h4, if_pos h6]; rfl)))
          · skip
            refine J_iconst (2) dX7_fault_55 rfl ?_
            refine J_goto (tgt := 86) dX7_fault_56 (by decide) ?_
            exact J_iret (ty := .int) hR dX7_fault_86 rfl rfl (Nat.le_of_ble_eq_true rfl) (Nat.le_of_ble_eq_true rfl) (jRes_f (by first | (simp only [fX7_fault, if_neg h1, if_pos h2, if_neg h3, if_pos h4, if_neg h6]; done) | rfl | (simp only [fX7_fault, if_neg h1, if_pos h2, if_neg h3, if_pos h4, if_neg h6]; rfl)))
      · skip
        refine J_aload_n dX7_fault_36 rfl rfl ?_
        refine J_getI dX7_fault_37 flX7_161 rfl hM.1 ?_
        refine J_goto (tgt := 86) dX7_fault_40 (by decide) ?_
        exact J_iret (ty := .int) hR dX7_fault_86 rfl rfl (Nat.le_of_ble_eq_true rfl) (Nat.le_of_ble_eq_true rfl) (jRes_f (by first | (simp only [fX7_fault, if_neg h1, if_pos h2, if_pos h3]; done) | rfl | (simp only [fX7_fault, if_neg h1, if_pos h2, if_pos h3]; rfl)))
    · skip
      refine J_ldc (-2000000004) dX7_fault_29 jw_903 ?_
      exact J_iret (ty := .int) hR dX7_fault_31 rfl rfl (Nat.le_of_ble_eq_true rfl) (Nat.le_of_ble_eq_true rfl) (jRes_f (by first | (simp only [fX7_fault, if_neg h1, if_neg h2]; done) | rfl | (simp only [fX7_fault, if_neg h1, if_neg h2]; rfl)))
  · skip
    refine J_ldc (-2000000001) dX7_fault_9 jw_760 ?_
    exact J_iret (ty := .int) hR dX7_fault_11 rfl rfl (Nat.le_of_ble_eq_true rfl) (Nat.le_of_ble_eq_true rfl) (jRes_f (by first | (simp only [fX7_fault, if_pos h1]; done) | rfl | (simp only [fX7_fault, if_pos h1]; rfl)))
theorem tAll_on {o : Nat} : ∀ (n : Nat) (I : jI), jMInv I o → jT I o → jMInv (tAll o n I).2 o ∧ (tAll o n I).2 o 3 = I o 3 ∧ (tAll o n I).2 o 5 = I o 5 ∧ ∀ b, b ≠ o → b ≠ o + 1 → (tAll o n I).2 b = I b
  | 0, I, h, _ => ⟨h, rfl, rfl, fun _ _ _ => rfl⟩
  | n + 1, I, h, hT => by
    by_cases h1 : I o 5 ≤ I o 6
    · have e : tAll o (n + 1) I = (1, I) := by unfold tAll; rw [if_pos h1]
      rw [e]
      exact ⟨h, rfl, rfl, fun _ _ _ => rfl⟩
    · obtain ⟨k1, k2, k3, k4, k5, k6⟩ := tDone_keep h hT h1
      obtain ⟨⟨r1, r2, r3⟩, -⟩ := tRead_ok hT h1
      have e3 : (tDone I o) o 3 = I o 3 := tDone_3 h hT h1
      generalize hD : tDone I o = D at k1 k2 k3 k4 k5 e3
      by_cases h2 : D o 10 = 0
      · have e : tAll o (n + 1) I = (0, D) := by unfold tAll; rw [if_neg h1, hD, if_pos h2]
        rw [e]
        exact ⟨k1, e3, k2, k5⟩
      · by_cases h3 : (-2000000001) < D o 9
        · have e : tAll o (n + 1) I = tAll o n (jset D o 8 (D o 8 + 1)) := by
            rw [show tAll o (n + 1) I = if I o 5 ≤ I o 6 then (1, I) else if (tDone I o) o 10 = 0 then (0, tDone I o) else if (-2000000001) < (tDone I o) o 9 then tAll o n (jset (tDone I o) o 8 ((tDone I o) o 8 + 1)) else (0, tDone I o) from rfl, if_neg h1, hD, if_neg h2, if_pos h3]
          have k1' : jMInv (jset D o 8 (D o 8 + 1)) o := k1.row (by funext q; simp [jset])
          have t' : jT (jset D o 8 (D o 8 + 1)) o := r1.same (by rw [jset_n _ _ (by omega), k3]) (by rw [jset_n _ _ (by omega), k2, r3])
          obtain ⟨i1, i2, i3, i4⟩ := tAll_on n _ k1' t'
          rw [e]
          refine ⟨i1, i2.trans ((jset_n _ _ (by omega)).trans e3), i3.trans ((jset_n _ _ (by omega)).trans k2), fun b hb hb1 => (i4 b hb hb1).trans ?_⟩
          rw [← k5 b hb hb1]; funext q; simp [jset, hb]
        · have e : tAll o (n + 1) I = (0, D) := by unfold tAll; rw [if_neg h1, hD, if_neg h2, if_neg h3]
          rw [e]
          exact ⟨k1, e3, k2, k5⟩
theorem jplay {I : jI} {o : Nat} (hI : jMInv I o) (hs : jStates I o) (hL : ∃ l : Nat, l ≤ 60 ∧ I o 5 = nI l) : jStates (fX7_doesAll (fX7_begins I o) o).2 o := by
  have eb : fX7_begins I o o = I o := jrow_ne (by omega)
  have hT : jT (jset (jset (fX7_begins I o) o 6 0) o 8 0) o := by
    obtain ⟨l, hl, e⟩ := hL
    exact ⟨0, l, by rw [jset_n _ _ (by omega), jset_o]; rfl, by rw [jset_n _ _ (by omega), jset_n _ _ (by omega), eb]; exact e, by omega, hl⟩
  have h := (tAll_on (o := o) 61 (jset (jset (fX7_begins I o) o 6 0) o 8 0) ((jbegI hI).row (by funext q; simp [jset])) hT).2.1
  unfold jStates fX7_doesAll
  rw [h, jset_n _ _ (by omega), jset_n _ _ (by omega), eb]
  exact hs
def fX7_play (I : jI) (o : Nat) : Int32 × jI :=
  if (fX7_doesAll (fX7_begins I o) o).1 = 0 then
    ((fX7_acted ((fX7_doesAll (fX7_begins I o) o).2) o (-2000000002)).1, (fX7_acted ((fX7_doesAll (fX7_begins I o) o).2) o (-2000000002)).2)
  else
    ((fX7_acted ((fX7_doesAll (fX7_begins I o) o).2) o (((fX7_doesAll (fX7_begins I o) o).2) o 8)).1, (fX7_acted ((fX7_doesAll (fX7_begins I o) o).2) o (((fX7_doesAll (fX7_begins I o) o).2) o 8)).2)
set_option maxRecDepth 100000 in
set_option maxHeartbeats 4000000 in
theorem kX7_play (S : jX) (I : jI) (o : Nat) (hM : jModel S o) (hI : jMInv I o) (hs : jStates I o) (hL : ∃ l : Nat, l ≤ 60 ∧ I o 5 = nI l) : jM (8, 0, 0) mX7_play [.ref o] S I (jRes (some (.int (fX7_play I o).1)) S (fX7_play I o).2) := by
  refine jM.of (ls := [.ref o]) (by decide) (Nat.le_of_ble_eq_true rfl) (by intro v hv; simp only [List.mem_cons, List.not_mem_nil, or_false] at hv; rcases hv with rfl <;> rfl) rfl (fun G hR => ?_)
  refine J_aload_n dX7_play_0 rfl rfl ?_
  refine J_cV0 (mc := mX7_begins) hM.1 (by decide) rfl dX7_play_1 mlX7_97 okX7_begins (kX7_begins S I o hM) (Nat.le_of_ble_eq_true rfl) (Nat.le_of_ble_eq_true rfl) (Nat.le_of_ble_eq_true rfl) (Nat.le_of_ble_eq_true rfl) ?_
  refine J_aload_n dX7_play_4 rfl rfl ?_
  refine J_aload_n dX7_play_5 rfl rfl ?_
  refine J_cV0r (mc := mX7_doesAll) hM.1 (by decide) rfl dX7_play_6 mlX7_179 okX7_doesAll (kX7_doesAll S (fX7_begins I o) o hM (jbegI hI) (jbegL hL)) (Nat.le_of_ble_eq_true rfl) (Nat.le_of_ble_eq_true rfl) (Nat.le_of_ble_eq_true rfl) (Nat.le_of_ble_eq_true rfl) ?_
  refine J_if_eq (tgt := 19) dX7_play_9 (by decide) (fun h1 => ?_) (fun h1 => ?_)
  · skip
    refine J_ldc (-2000000002) dX7_play_19 jw_790 ?_
    refine J_cV1r (mc := mX7_acted) hM.1 (by decide) rfl dX7_play_21 mlX7_103 okX7_acted (kX7_acted S ((fX7_doesAll (fX7_begins I o) o).2) o (-2000000002) hM (jplay hI hs hL)) (Nat.le_of_ble_eq_true rfl) (Nat.le_of_ble_eq_true rfl) (Nat.le_of_ble_eq_true rfl) (Nat.le_of_ble_eq_true rfl) ?_
    exact J_iret (ty := .int) hR dX7_play_24 rfl rfl (Nat.le_of_ble_eq_true rfl) (Nat.le_of_ble_eq_true rfl) (jRes_f (by first | (simp only [fX7_play, if_pos h1]; done) | rfl | (simp only [fX7_play, if_pos h1]; rfl)))
  · skip
    refine J_aload_n dX7_play_12 rfl rfl ?_
    refine J_getI dX7_play_13 flX7_158 rfl hM.1 ?_
    refine J_goto (tgt := 21) dX7_play_16 (by decide) ?_
    refine J_cV1r (mc := mX7_acted) hM.1 (by decide) rfl dX7_play_21 mlX7_103 okX7_acted (kX7_acted S ((fX7_doesAll (fX7_begins I o) o).2) o (((fX7_doesAll (fX7_begins I o) o).2) o 8) hM (jplay hI hs hL)) (Nat.le_of_ble_eq_true rfl) (Nat.le_of_ble_eq_true rfl) (Nat.le_of_ble_eq_true rfl) (Nat.le_of_ble_eq_true rfl) ?_
    exact J_iret (ty := .int) hR dX7_play_24 rfl rfl (Nat.le_of_ble_eq_true rfl) (Nat.le_of_ble_eq_true rfl) (jRes_f (by first | (simp only [fX7_play, if_neg h1]; done) | rfl | (simp only [fX7_play, if_neg h1]; rfl)))
