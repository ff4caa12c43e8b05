/-- the reference's place in its text -/
def jT (I : jI) (o : Nat) : Prop := ∃ a l : Nat, I o 6 = nI a ∧ I o 5 = nI l ∧ a ≤ l ∧ l ≤ 60
theorem jTvp {I : jI} {o : Nat} (hT : jT I o) (h : ¬ I o 5 ≤ I o 6) : vp_in (I o 6) 60 := by
  obtain ⟨a, l, h6, h5, hal, hl⟩ := hT
  rw [h5, h6, nI_leI (by omega) (by omega)] at h
  rw [h6]
  exact vp_in_nI (by omega) (by decide)
theorem jT.same {I J : jI} {o : Nat} (hT : jT I o) (h6 : J o 6 = I o 6) (h5 : J o 5 = I o 5) : jT J o := by
  unfold jT
  rw [h6, h5]
  exact hT
theorem jT.set {I : jI} {o j : Nat} {x : Int32} (hT : jT I o) (h : j ≠ 6 ∧ j ≠ 5) : jT (jset I o j x) o := by
  refine hT.same ?_ ?_
  · simp [jset, Ne.symm h.1]
  · simp [jset, Ne.symm h.2]
theorem jT.inc {I : jI} {o : Nat} (hT : jT I o) (h : ¬ I o 5 ≤ I o 6) : jT (jset I o 6 (I o 6 + 1)) o := by
  obtain ⟨a, l, h6, h5, hal, hl⟩ := hT
  rw [h5, h6, nI_leI (by omega) (by omega)] at h
  refine ⟨a + 1, l, ?_, ?_, by omega, hl⟩
  · simp [jset, h6, nI_1]
  · simp [jset, h5]
def fX7_here (I : jI) (o : Nat) : Int32 :=
  if (I o 5) ≤ (I o 6) then
    (-1)
  else
    (I (o + 4) ((I o 6)).toNatClampNeg)
set_option maxRecDepth 100000 in
set_option maxHeartbeats 4000000 in
theorem kX7_here (S : jX) (I : jI) (o : Nat) (hM : jModel S o) (hT : jT I o) : jM (0, 0, 0) mX7_here [.ref o] S I (jRes (some (.int (fX7_here I o))) S I) := by
  refine jM.of (ls := [.ref o]) (by decide) (Nat.le_of_ble_eq_true rfl) (by intro v hv; simp only [List.mem_cons, List.not_mem_nil, or_false] at hv; rcases hv with rfl <;> rfl) rfl (fun G hR => ?_)
  refine J_aload_n dX7_here_0 rfl rfl ?_
  refine J_getI dX7_here_1 flX7_138 rfl hM.1 ?_
  refine J_aload_n dX7_here_4 rfl rfl ?_
  refine J_getI dX7_here_5 flX7_135 rfl hM.1 ?_
  refine J_icmp_ge (tgt := 23) dX7_here_8 (by decide) (fun h1 => ?_) (fun h1 => ?_)
  · skip
    refine J_iconst (-1) dX7_here_23 rfl ?_
    exact J_iret (ty := .int) hR dX7_here_24 rfl rfl (Nat.le_of_ble_eq_true rfl) (Nat.le_of_ble_eq_true rfl) (jRes_i (by first | (simp only [fX7_here, if_pos h1]; done) | rfl | (simp only [fX7_here, if_pos h1]; rfl)) rfl)
  · skip
    refine J_aload_n dX7_here_11 rfl rfl ?_
    refine J_getR dX7_here_12 flX7_19 rfl hM.1 hM.r3 ?_
    refine J_aload_n dX7_here_15 rfl rfl ?_
    refine J_getI dX7_here_16 flX7_138 rfl hM.1 ?_
    refine J_iaload dX7_here_19 hM.a3 (jTvp hT (by assumption)) ?_
    refine J_goto (tgt := 24) dX7_here_20 (by decide) ?_
    exact J_iret (ty := .int) hR dX7_here_24 rfl rfl (Nat.le_of_ble_eq_true rfl) (Nat.le_of_ble_eq_true rfl) (jRes_i (by first | (simp only [fX7_here, if_neg h1]; done) | rfl | (simp only [fX7_here, if_neg h1]; rfl)) rfl)
def fX7_isDigit (I : jI) (o : Nat) : Int32 :=
  (fX7_in I (fX7_here I o) 48 57)
set_option maxRecDepth 100000 in
set_option maxHeartbeats 4000000 in
theorem kX7_isDigit (S : jX) (I : jI) (o : Nat) (hM : jModel S o) (hT : jT I o) : jM (1, 0, 0) mX7_isDigit [.ref o] S I (jRes (some (.int (fX7_isDigit I o))) S I) := by
  refine jM.of (ls := [.ref o]) (by decide) (Nat.le_of_ble_eq_true rfl) (by intro v hv; simp only [List.mem_cons, List.not_mem_nil, or_false] at hv; rcases hv with rfl <;> rfl) rfl (fun G hR => ?_)
  refine J_aload_n dX7_isDigit_0 rfl rfl ?_
  refine J_cV0r (mc := mX7_here) hM.1 (by decide) rfl dX7_isDigit_1 mlX7_141 okX7_here (kX7_here S I o hM hT) (Nat.le_of_ble_eq_true rfl) (Nat.le_of_ble_eq_true rfl) (Nat.le_of_ble_eq_true rfl) (Nat.le_of_ble_eq_true rfl) ?_
  refine J_bipush (48) dX7_isDigit_4 rfl ?_
  refine J_bipush (57) dX7_isDigit_6 rfl ?_
  refine J_cS3r (mc := mX7_in) dX7_isDigit_8 mlX7_30 okX7_in (kX7_in S I (fX7_here I o) 48 57 ) (Nat.le_of_ble_eq_true rfl) (Nat.le_of_ble_eq_true rfl) (Nat.le_of_ble_eq_true rfl) (Nat.le_of_ble_eq_true rfl) ?_
  exact J_iret (ty := .boolean) hR dX7_isDigit_11 rfl (jBn jinBool) (Nat.le_of_ble_eq_true rfl) (Nat.le_of_ble_eq_true rfl) (jRes_i (by first | (simp only [fX7_isDigit]; done) | rfl | (simp only [fX7_isDigit]; rfl)) rfl)
theorem jhere {I : jI} {o : Nat} (h : I o 5 ≤ I o 6) : fX7_here I o = (-1) := by unfold fX7_here; rw [if_pos h]
theorem jdig {I : jI} {o : Nat} (h : ¬ fX7_isDigit I o = 0) : ¬ I o 5 ≤ I o 6 := by
  intro hc
  apply h
  unfold fX7_isDigit
  rw [jhere hc]
  rfl
def fX7_takesSign (I : jI) (o : Nat) (x : Int32) : jI :=
  if (I o 10) = 0 then
    if ((jset I o 10 0) o 10) = 0 then
      (jset (jset I o 10 0) o 6 (((jset I o 10 0) o 6) + 0))
    else
      (jset (jset I o 10 0) o 6 (((jset I o 10 0) o 6) + 1))
  else
    if (fX7_here I o) = x then
      if ((jset I o 10 1) o 10) = 0 then
        (jset (jset I o 10 1) o 6 (((jset I o 10 1) o 6) + 0))
      else
        (jset (jset I o 10 1) o 6 (((jset I o 10 1) o 6) + 1))
    else
      if ((jset I o 10 0) o 10) = 0 then
        (jset (jset I o 10 0) o 6 (((jset I o 10 0) o 6) + 0))
      else
        (jset (jset I o 10 0) o 6 (((jset I o 10 0) o 6) + 1))
set_option maxRecDepth 100000 in
set_option maxHeartbeats 4000000 in
theorem kX7_takesSign (S : jX) (I : jI) (o : Nat) (x : Int32) (hM : jModel S o) (hT : jT I o) : jM (1, 0, 0) mX7_takesSign [.ref o, .int x] S I (jRes none S (fX7_takesSign I o x)) := by
  refine jM.of (ls := [.ref o, .int x]) (by decide) (Nat.le_of_ble_eq_true rfl) (by intro v hv; simp only [List.mem_cons, List.not_mem_nil, or_false] at hv; rcases hv with rfl | rfl <;> rfl) rfl (fun G hR => ?_)
  refine J_aload_n dX7_takesSign_0 rfl rfl ?_
  refine J_aload_n dX7_takesSign_1 rfl rfl ?_
  refine J_getI dX7_takesSign_2 flX7_144 rfl hM.1 ?_
  refine J_if_eq (tgt := 20) dX7_takesSign_5 (by decide) (fun h1 => ?_) (fun h1 => ?_)
  · skip
    refine J_iconst (0) dX7_takesSign_20 rfl ?_
    refine J_putI dX7_takesSign_21 flX7_144 rfl rfl rfl rfl hM.1 ?_
    refine J_aload_n dX7_takesSign_24 rfl rfl ?_
    refine J_dup dX7_takesSign_25 rfl ?_
    refine J_getI dX7_takesSign_26 flX7_138 rfl hM.1 ?_
    refine J_aload_n dX7_takesSign_29 rfl rfl ?_
    refine J_getI dX7_takesSign_30 flX7_144 rfl hM.1 ?_
    refine J_if_eq (tgt := 40) dX7_takesSign_33 (by decide) (fun h2 => ?_) (fun h2 => ?_)
    · skip
      refine J_iconst (0) dX7_takesSign_40 rfl ?_
      refine J_iadd dX7_takesSign_41 ?_
      refine J_putI dX7_takesSign_42 flX7_138 rfl rfl rfl rfl hM.1 ?_
      exact J_vret hR dX7_takesSign_45 rfl (Nat.le_of_ble_eq_true rfl) (Nat.le_of_ble_eq_true rfl) (jRes_v (by first | (simp only [fX7_takesSign, if_pos h1, if_pos h2]; done) | rfl | (simp only [fX7_takesSign, if_pos h1, if_pos h2]; rfl)))
    · skip
      refine J_iconst (1) dX7_takesSign_36 rfl ?_
      refine J_goto (tgt := 41) dX7_takesSign_37 (by decide) ?_
      refine J_iadd dX7_takesSign_41 ?_
      refine J_putI dX7_takesSign_42 flX7_138 rfl rfl rfl rfl hM.1 ?_
      exact J_vret hR dX7_takesSign_45 rfl (Nat.le_of_ble_eq_true rfl) (Nat.le_of_ble_eq_true rfl) (jRes_v (by first | (simp only [fX7_takesSign, if_pos h1, if_neg h2]; done) | rfl | (simp only [fX7_takesSign, if_pos h1, if_neg h2]; rfl)))
  · skip
    refine J_aload_n dX7_takesSign_8 rfl rfl ?_
    refine J_cV0r (mc := mX7_here) hM.1 (by decide) rfl dX7_takesSign_9 mlX7_141 okX7_here (kX7_here S I o hM hT) (Nat.le_of_ble_eq_true rfl) (Nat.le_of_ble_eq_true rfl) (Nat.le_of_ble_eq_true rfl) (Nat.le_of_ble_eq_true rfl) ?_
    refine J_iload_n dX7_takesSign_12 rfl ?_
    refine J_icmp_ne (tgt := 20) dX7_takesSign_13 (by decide) (fun h3 => ?_) (fun h3 => ?_)
    · skip
      refine J_iconst (0) dX7_takesSign_20 rfl ?_
      refine J_putI dX7_takesSign_21 flX7_144 rfl rfl rfl rfl hM.1 ?_
      refine J_aload_n dX7_takesSign_24 rfl rfl ?_
      refine J_dup dX7_takesSign_25 rfl ?_
      refine J_getI dX7_takesSign_26 flX7_138 rfl hM.1 ?_
      refine J_aload_n dX7_takesSign_29 rfl rfl ?_
      refine J_getI dX7_takesSign_30 flX7_144 rfl hM.1 ?_
      refine J_if_eq (tgt := 40) dX7_takesSign_33 (by decide) (fun h4 => ?_) (fun h4 => ?_)
      · skip
        refine J_iconst (0) dX7_takesSign_40 rfl ?_
        refine J_iadd dX7_takesSign_41 ?_
        refine J_putI dX7_takesSign_42 flX7_138 rfl rfl rfl rfl hM.1 ?_
        exact J_vret hR dX7_takesSign_45 rfl (Nat.le_of_ble_eq_true rfl) (Nat.le_of_ble_eq_true rfl) (jRes_v (by first | (simp only [fX7_takesSign, if_neg h1, if_neg h3, if_pos h4]; done) | rfl | (simp only [fX7_takesSign, if_neg h1, if_neg h3, if_pos h4]; rfl)))
      · skip
        refine J_iconst (1) dX7_takesSign_36 rfl ?_
        refine J_goto (tgt := 41) dX7_takesSign_37 (by decide) ?_
        refine J_iadd dX7_takesSign_41 ?_
        refine J_putI dX7_takesSign_42 flX7_138 rfl rfl rfl rfl hM.1 ?_
        exact J_vret hR dX7_takesSign_45 rfl (Nat.le_of_ble_eq_true rfl) (Nat.le_of_ble_eq_true rfl) (jRes_v (by first | (simp only [fX7_takesSign, if_neg h1, if_neg h3, if_neg h4]; done) | rfl | (simp only [fX7_takesSign, if_neg h1, if_neg h3, if_neg h4]; rfl)))
    · skip
      refine J_iconst (1) dX7_takesSign_16 rfl ?_
      refine J_goto (tgt := 21) dX7_takesSign_17 (by decide) ?_
      refine J_putI dX7_takesSign_21 flX7_144 rfl rfl rfl rfl hM.1 ?_
      refine J_aload_n dX7_takesSign_24 rfl rfl ?_
      refine J_dup dX7_takesSign_25 rfl ?_
      refine J_getI dX7_takesSign_26 flX7_138 rfl hM.1 ?_
      refine J_aload_n dX7_takesSign_29 rfl rfl ?_
      refine J_getI dX7_takesSign_30 flX7_144 rfl hM.1 ?_
      refine J_if_eq (tgt := 40) dX7_takesSign_33 (by decide) (fun h5 => ?_) (fun h5 => ?_)
      · skip
        refine J_iconst (0) dX7_takesSign_40 rfl ?_
        refine J_iadd dX7_takesSign_41 ?_
        refine J_putI dX7_takesSign_42 flX7_138 rfl rfl rfl rfl hM.1 ?_
        exact J_vret hR dX7_takesSign_45 rfl (Nat.le_of_ble_eq_true rfl) (Nat.le_of_ble_eq_true rfl) (jRes_v (by first | (simp only [fX7_takesSign, if_neg h1, if_pos h3, if_pos h5]; done) | rfl | (simp only [fX7_takesSign, if_neg h1, if_pos h3, if_pos h5]; rfl)))
      · skip
        refine J_iconst (1) dX7_takesSign_36 rfl ?_
        refine J_goto (tgt := 41) dX7_takesSign_37 (by decide) ?_
        refine J_iadd dX7_takesSign_41 ?_
        refine J_putI dX7_takesSign_42 flX7_138 rfl rfl rfl rfl hM.1 ?_
        exact J_vret hR dX7_takesSign_45 rfl (Nat.le_of_ble_eq_true rfl) (Nat.le_of_ble_eq_true rfl) (jRes_v (by first | (simp only [fX7_takesSign, if_neg h1, if_pos h3, if_neg h5]; done) | rfl | (simp only [fX7_takesSign, if_neg h1, if_pos h3, if_neg h5]; rfl)))
def fX7_number (I : jI) (o : Nat) : Int32 × jI :=
  if (I o 10) = 0 then
    if ((jset I o 10 0) o 10) = 0 then
      (0, (jset I o 10 0))
    else
      if (fX7_isDigit (jset I o 10 0) o) = 0 then
        (0, (jset I o 10 0))
      else
        if ((jset (jset I o 10 0) o 6 (((jset I o 10 0) o 6) + 1)) o 10) = 0 then
          ((((10 * 0) + (fX7_here (jset I o 10 0) o)) - 48), (jset (jset I o 10 0) o 6 (((jset I o 10 0) o 6) + 1)))
        else
          if (fX7_isDigit (jset (jset I o 10 0) o 6 (((jset I o 10 0) o 6) + 1)) o) = 0 then
            ((((10 * 0) + (fX7_here (jset I o 10 0) o)) - 48), (jset (jset I o 10 0) o 6 (((jset I o 10 0) o 6) + 1)))
          else
            ((((10 * (((10 * 0) + (fX7_here (jset I o 10 0) o)) - 48)) + (fX7_here (jset (jset I o 10 0) o 6 (((jset I o 10 0) o 6) + 1)) o)) - 48), (jset (jset (jset I o 10 0) o 6 (((jset I o 10 0) o 6) + 1)) o 6 (((jset (jset I o 10 0) o 6 (((jset I o 10 0) o 6) + 1)) o 6) + 1)))
  else
    if (fX7_isDigit I o) = 0 then
      if ((jset I o 10 0) o 10) = 0 then
        (0, (jset I o 10 0))
      else
        if (fX7_isDigit (jset I o 10 0) o) = 0 then
          (0, (jset I o 10 0))
        else
          if ((jset (jset I o 10 0) o 6 (((jset I o 10 0) o 6) + 1)) o 10) = 0 then
            ((((10 * 0) + (fX7_here (jset I o 10 0) o)) - 48), (jset (jset I o 10 0) o 6 (((jset I o 10 0) o 6) + 1)))
          else
            if (fX7_isDigit (jset (jset I o 10 0) o 6 (((jset I o 10 0) o 6) + 1)) o) = 0 then
              ((((10 * 0) + (fX7_here (jset I o 10 0) o)) - 48), (jset (jset I o 10 0) o 6 (((jset I o 10 0) o 6) + 1)))
            else
              ((((10 * (((10 * 0) + (fX7_here (jset I o 10 0) o)) - 48)) + (fX7_here (jset (jset I o 10 0) o 6 (((jset I o 10 0) o 6) + 1)) o)) - 48), (jset (jset (jset I o 10 0) o 6 (((jset I o 10 0) o 6) + 1)) o 6 (((jset (jset I o 10 0) o 6 (((jset I o 10 0) o 6) + 1)) o 6) + 1)))
    else
      if ((jset I o 10 1) o 10) = 0 then
        (0, (jset I o 10 1))
      else
        if (fX7_isDigit (jset I o 10 1) o) = 0 then
          (0, (jset I o 10 1))
        else
          if ((jset (jset I o 10 1) o 6 (((jset I o 10 1) o 6) + 1)) o 10) = 0 then
            ((((10 * 0) + (fX7_here (jset I o 10 1) o)) - 48), (jset (jset I o 10 1) o 6 (((jset I o 10 1) o 6) + 1)))
          else
            if (fX7_isDigit (jset (jset I o 10 1) o 6 (((jset I o 10 1) o 6) + 1)) o) = 0 then
              ((((10 * 0) + (fX7_here (jset I o 10 1) o)) - 48), (jset (jset I o 10 1) o 6 (((jset I o 10 1) o 6) + 1)))
            else
              ((((10 * (((10 * 0) + (fX7_here (jset I o 10 1) o)) - 48)) + (fX7_here (jset (jset I o 10 1) o 6 (((jset I o 10 1) o 6) + 1)) o)) - 48), (jset (jset (jset I o 10 1) o 6 (((jset I o 10 1) o 6) + 1)) o 6 (((jset (jset I o 10 1) o 6 (((jset I o 10 1) o 6) + 1)) o 6) + 1)))
set_option maxRecDepth 100000 in
set_option maxHeartbeats 4000000 in
theorem kX7_number (S : jX) (I : jI) (o : Nat) (hM : jModel S o) (hT : jT I o) : jM (2, 0, 0) mX7_number [.ref o] S I (jRes (some (.int (fX7_number I o).1)) S (fX7_number I o).2) := by
  refine jM.of (ls := [.ref o, .long 0, .long 0]) (by decide) (Nat.le_of_ble_eq_true rfl) (by intro v hv; simp only [List.mem_cons, List.not_mem_nil, or_false] at hv; rcases hv with rfl <;> rfl) rfl (fun G hR => ?_)
  refine J_aload_n dX7_number_0 rfl rfl ?_
  refine J_aload_n dX7_number_1 rfl rfl ?_
  refine J_getI dX7_number_2 flX7_144 rfl hM.1 ?_
  refine J_if_eq (tgt := 19) dX7_number_5 (by decide) (fun h1 => ?_) (fun h1 => ?_)
  · skip
    refine J_iconst (0) dX7_number_19 rfl ?_
    refine J_putI dX7_number_20 flX7_144 rfl rfl rfl rfl hM.1 ?_
    refine J_iconst (0) dX7_number_23 rfl ?_
    refine J_istore_n dX7_number_24 (Nat.le_of_ble_eq_true rfl) ?_
    refine J_iconst (0) dX7_number_25 rfl ?_
    refine J_istore_n dX7_number_26 (Nat.le_of_ble_eq_true rfl) ?_
    refine J_iload_n dX7_number_27 rfl ?_
    refine J_iconst (2) dX7_number_28 rfl ?_
    refine J_icmp_ge (tgt := 75) dX7_number_29 (by decide) (fun h2 => ?_) (fun h2 => ?_)
    · skip
      exact absurd h2 (by decide)
    · skip
      refine J_aload_n dX7_number_32 rfl rfl ?_
      refine J_getI dX7_number_33 flX7_144 rfl hM.1 ?_
      refine J_if_eq (tgt := 75) dX7_number_36 (by decide) (fun h3 => ?_) (fun h3 => ?_)
      · skip
        refine J_iload_n dX7_number_75 rfl ?_
        exact J_iret (ty := .int) hR dX7_number_76 rfl rfl (Nat.le_of_ble_eq_true rfl) (Nat.le_of_ble_eq_true rfl) (jRes_f (by first | (simp only [fX7_number, if_pos h1, if_pos h3]; done) | rfl | (simp only [fX7_number, if_pos h1, if_pos h3]; rfl)))
      · skip
        refine J_aload_n dX7_number_39 rfl rfl ?_
        refine J_cV0r (mc := mX7_isDigit) hM.1 (by decide) rfl dX7_number_40 mlX7_148 okX7_isDigit (kX7_isDigit S (jset I o 10 0) o hM (hT.set (by decide))) (Nat.le_of_ble_eq_true rfl) (Nat.le_of_ble_eq_true rfl) (Nat.le_of_ble_eq_true rfl) (Nat.le_of_ble_eq_true rfl) ?_
        refine J_if_eq (tgt := 75) dX7_number_43 (by decide) (fun h4 => ?_) (fun h4 => ?_)
        · skip
          refine J_iload_n dX7_number_75 rfl ?_
          exact J_iret (ty := .int) hR dX7_number_76 rfl rfl (Nat.le_of_ble_eq_true rfl) (Nat.le_of_ble_eq_true rfl) (jRes_f (by first | (simp only [fX7_number, if_pos h1, if_neg h3, if_pos h4]; done) | rfl | (simp only [fX7_number, if_pos h1, if_neg h3, if_pos h4]; rfl)))
        · skip
          refine J_bipush (10) dX7_number_46 rfl ?_
          refine J_iload_n dX7_number_48 rfl ?_
          refine J_imul dX7_number_49 ?_
          refine J_aload_n dX7_number_50 rfl rfl ?_
          refine J_cV0r (mc := mX7_here) hM.1 (by decide) rfl dX7_number_51 mlX7_141 okX7_here (kX7_here S (jset I o 10 0) o hM (hT.set (by decide))) (Nat.le_of_ble_eq_true rfl) (Nat.le_of_ble_eq_true rfl) (Nat.le_of_ble_eq_true rfl) (Nat.le_of_ble_eq_true rfl) ?_
          refine J_iadd dX7_number_54 ?_
          refine J_bipush (48) dX7_number_55 rfl ?_
          refine J_isub dX7_number_57 ?_
          refine J_istore_n dX7_number_58 (Nat.le_of_ble_eq_true rfl) ?_
          refine J_aload_n dX7_number_59 rfl rfl ?_
          refine J_dup dX7_number_60 rfl ?_
          refine J_getI dX7_number_61 flX7_138 rfl hM.1 ?_
          refine J_iconst (1) dX7_number_64 rfl ?_
          refine J_iadd dX7_number_65 ?_
          refine J_putI dX7_number_66 flX7_138 rfl rfl rfl rfl hM.1 ?_
          refine J_iincv (y := 1) (v := 1) dX7_number_69 rfl rfl rfl ?_
          refine J_goto (tgt := 27) dX7_number_72 (by decide) ?_
          refine J_iload_n dX7_number_27 rfl ?_
          refine J_iconst (2) dX7_number_28 rfl ?_
          refine J_icmp_ge (tgt := 75) dX7_number_29 (by decide) (fun h5 => ?_) (fun h5 => ?_)
          · skip
            exact absurd h5 (by decide)
          · skip
            refine J_aload_n dX7_number_32 rfl rfl ?_
            refine J_getI dX7_number_33 flX7_144 rfl hM.1 ?_
            refine J_if_eq (tgt := 75) dX7_number_36 (by decide) (fun h6 => ?_) (fun h6 => ?_)
            · skip
              refine J_iload_n dX7_number_75 rfl ?_
              exact J_iret (ty := .int) hR dX7_number_76 rfl rfl (Nat.le_of_ble_eq_true rfl) (Nat.le_of_ble_eq_true rfl) (jRes_f (by first | (simp only [fX7_number, if_pos h1, if_neg h3, if_neg h4, if_pos h6]; done) | rfl | (simp only [fX7_number, if_pos h1, if_neg h3, if_neg h4, if_pos h6]; rfl)))
            · skip
              refine J_aload_n dX7_number_39 rfl rfl ?_
              refine J_cV0r (mc := mX7_isDigit) hM.1 (by decide) rfl dX7_number_40 mlX7_148 okX7_isDigit (kX7_isDigit S (jset (jset I o 10 0) o 6 (((jset I o 10 0) o 6) + 1)) o hM ((hT.set (by decide)).inc (jdig h4))) (Nat.le_of_ble_eq_true rfl) (Nat.le_of_ble_eq_true rfl) (Nat.le_of_ble_eq_true rfl) (Nat.le_of_ble_eq_true rfl) ?_
              refine J_if_eq (tgt := 75) dX7_number_43 (by decide) (fun h7 => ?_) (fun h7 => ?_)
              · skip
                refine J_iload_n dX7_number_75 rfl ?_
                exact J_iret (ty := .int) hR dX7_number_76 rfl rfl (Nat.le_of_ble_eq_true rfl) (Nat.le_of_ble_eq_true rfl) (jRes_f (by first | (simp only [fX7_number, if_pos h1, if_neg h3, if_neg h4, if_neg h6, if_pos h7]; done) | rfl | (simp only [fX7_number, if_pos h1, if_neg h3, if_neg h4, if_neg h6, if_pos h7]; rfl)))
              · skip
                refine J_bipush (10) dX7_number_46 rfl ?_
                refine J_iload_n dX7_number_48 rfl ?_
                refine J_imul dX7_number_49 ?_
                refine J_aload_n dX7_number_50 rfl rfl ?_
                refine J_cV0r (mc := mX7_here) hM.1 (by decide) rfl dX7_number_51 mlX7_141 okX7_here (kX7_here S (jset (jset I o 10 0) o 6 (((jset I o 10 0) o 6) + 1)) o hM ((hT.set (by decide)).inc (jdig h4))) (Nat.le_of_ble_eq_true rfl) (Nat.le_of_ble_eq_true rfl) (Nat.le_of_ble_eq_true rfl) (Nat.le_of_ble_eq_true rfl) ?_
                refine J_iadd dX7_number_54 ?_
                refine J_bipush (48) dX7_number_55 rfl ?_
                refine J_isub dX7_number_57 ?_
                refine J_istore_n dX7_number_58 (Nat.le_of_ble_eq_true rfl) ?_
                refine J_aload_n dX7_number_59 rfl rfl ?_
                refine J_dup dX7_number_60 rfl ?_
                refine J_getI dX7_number_61 flX7_138 rfl hM.1 ?_
                refine J_iconst (1) dX7_number_64 rfl ?_
                refine J_iadd dX7_number_65 ?_
                refine J_putI dX7_number_66 flX7_138 rfl rfl rfl rfl hM.1 ?_
                refine J_iincv (y := 1) (v := 2) dX7_number_69 rfl rfl rfl ?_
                refine J_goto (tgt := 27) dX7_number_72 (by decide) ?_
                refine J_iload_n dX7_number_27 rfl ?_
                refine J_iconst (2) dX7_number_28 rfl ?_
                refine J_icmp_ge (tgt := 75) dX7_number_29 (by decide) (fun h8 => ?_) (fun h8 => ?_)
                · skip
                  refine J_iload_n dX7_number_75 rfl ?_
                  exact J_iret (ty := .int) hR dX7_number_76 rfl rfl (Nat.le_of_ble_eq_true rfl) (Nat.le_of_ble_eq_true rfl) (jRes_f (by first | (simp only [fX7_number, if_pos h1, if_neg h3, if_neg h4, if_neg h6, if_neg h7]; done) | rfl | (simp only [fX7_number, if_pos h1, if_neg h3, if_neg h4, if_neg h6, if_neg h7]; rfl)))
                · skip
                  exact absurd h8 (by decide)
  · skip
    refine J_aload_n dX7_number_8 rfl rfl ?_
    refine J_cV0r (mc := mX7_isDigit) hM.1 (by decide) rfl dX7_number_9 mlX7_148 okX7_isDigit (kX7_isDigit S I o hM hT) (Nat.le_of_ble_eq_true rfl) (Nat.le_of_ble_eq_true rfl) (Nat.le_of_ble_eq_true rfl) (Nat.le_of_ble_eq_true rfl) ?_
    refine J_if_eq (tgt := 19) dX7_number_12 (by decide) (fun h9 => ?_) (fun h9 => ?_)
    · skip
      refine J_iconst (0) dX7_number_19 rfl ?_
      refine J_putI dX7_number_20 flX7_144 rfl rfl rfl rfl hM.1 ?_
      refine J_iconst (0) dX7_number_23 rfl ?_
      refine J_istore_n dX7_number_24 (Nat.le_of_ble_eq_true rfl) ?_
      refine J_iconst (0) dX7_number_25 rfl ?_
      refine J_istore_n dX7_number_26 (Nat.le_of_ble_eq_true rfl) ?_
      refine J_iload_n dX7_number_27 rfl ?_
      refine J_iconst (2) dX7_number_28 rfl ?_
      refine J_icmp_ge (tgt := 75) dX7_number_29 (by decide) (fun h10 => ?_) (fun h10 => ?_)
      · skip
        exact absurd h10 (by decide)
      · skip
        refine J_aload_n dX7_number_32 rfl rfl ?_
        refine J_getI dX7_number_33 flX7_144 rfl hM.1 ?_
        refine J_if_eq (tgt := 75) dX7_number_36 (by decide) (fun h11 => ?_) (fun h11 => ?_)
        · skip
          refine J_iload_n dX7_number_75 rfl ?_
          exact J_iret (ty := .int) hR dX7_number_76 rfl rfl (Nat.le_of_ble_eq_true rfl) (Nat.le_of_ble_eq_true rfl) (jRes_f (by first | (simp only [fX7_number, if_neg h1, if_pos h9, if_pos h11]; done) | rfl | (simp only [fX7_number, if_neg h1, if_pos h9, if_pos h11]; rfl)))
        · skip
          refine J_aload_n dX7_number_39 rfl rfl ?_
          refine J_cV0r (mc := mX7_isDigit) hM.1 (by decide) rfl dX7_number_40 mlX7_148 okX7_isDigit (kX7_isDigit S (jset I o 10 0) o hM (hT.set (by decide))) (Nat.le_of_ble_eq_true rfl) (Nat.le_of_ble_eq_true rfl) (Nat.le_of_ble_eq_true rfl) (Nat.le_of_ble_eq_true rfl) ?_
          refine J_if_eq (tgt := 75) dX7_number_43 (by decide) (fun h12 => ?_) (fun h12 => ?_)
          · skip
            refine J_iload_n dX7_number_75 rfl ?_
            exact J_iret (ty := .int) hR dX7_number_76 rfl rfl (Nat.le_of_ble_eq_true rfl) (Nat.le_of_ble_eq_true rfl) (jRes_f (by first | (simp only [fX7_number, if_neg h1, if_pos h9, if_neg h11, if_pos h12]; done) | rfl | (simp only [fX7_number, if_neg h1, if_pos h9, if_neg h11, if_pos h12]; rfl)))
          · skip
            refine J_bipush (10) dX7_number_46 rfl ?_
            refine J_iload_n dX7_number_48 rfl ?_
            refine J_imul dX7_number_49 ?_
            refine J_aload_n dX7_number_50 rfl rfl ?_
            refine J_cV0r (mc := mX7_here) hM.1 (by decide) rfl dX7_number_51 mlX7_141 okX7_here (kX7_here S (jset I o 10 0) o hM (hT.set (by decide))) (Nat.le_of_ble_eq_true rfl) (Nat.le_of_ble_eq_true rfl) (Nat.le_of_ble_eq_true rfl) (Nat.le_of_ble_eq_true rfl) ?_
            refine J_iadd dX7_number_54 ?_
            refine J_bipush (48) dX7_number_55 rfl ?_
            refine J_isub dX7_number_57 ?_
            refine J_istore_n dX7_number_58 (Nat.le_of_ble_eq_true rfl) ?_
            refine J_aload_n dX7_number_59 rfl rfl ?_
            refine J_dup dX7_number_60 rfl ?_
            refine J_getI dX7_number_61 flX7_138 rfl hM.1 ?_
            refine J_iconst (1) dX7_number_64 rfl ?_
            refine J_iadd dX7_number_65 ?_
            refine J_putI dX7_number_66 flX7_138 rfl rfl rfl rfl hM.1 ?_
            refine J_iincv (y := 1) (v := 1) dX7_number_69 rfl rfl rfl ?_
            refine J_goto (tgt := 27) dX7_number_72 (by decide) ?_
            refine J_iload_n dX7_number_27 rfl ?_
            refine J_iconst (2) dX7_number_28 rfl ?_
            refine J_icmp_ge (tgt := 75) dX7_number_29 (by decide) (fun h13 => ?_) (fun h13 => ?_)
            · skip
              exact absurd h13 (by decide)
            · skip
              refine J_aload_n dX7_number_32 rfl rfl ?_
              refine J_getI dX7_number_33 flX7_144 rfl hM.1 ?_
              refine J_if_eq (tgt := 75) dX7_number_36 (by decide) (fun h14 => ?_) (fun h14 => ?_)
              · skip
                refine J_iload_n dX7_number_75 rfl ?_
                exact J_iret (ty := .int) hR dX7_number_76 rfl rfl (Nat.le_of_ble_eq_true rfl) (Nat.le_of_ble_eq_true rfl) (jRes_f (by first | (simp only [fX7_number, if_neg h1, if_pos h9, if_neg h11, if_neg h12, if_pos h14]; done) | rfl | (simp only [fX7_number, if_neg h1, if_pos h9, if_neg h11, if_neg h12, if_pos h14]; rfl)))
              · skip
                refine J_aload_n dX7_number_39 rfl rfl ?_
                refine J_cV0r (mc := mX7_isDigit) hM.1 (by decide) rfl dX7_number_40 mlX7_148 okX7_isDigit (kX7_isDigit S (jset (jset I o 10 0) o 6 (((jset I o 10 0) o 6) + 1)) o hM ((hT.set (by decide)).inc (jdig h12))) (Nat.le_of_ble_eq_true rfl) (Nat.le_of_ble_eq_true rfl) (Nat.le_of_ble_eq_true rfl) (Nat.le_of_ble_eq_true rfl) ?_
                refine J_if_eq (tgt := 75) dX7_number_43 (by decide) (fun h15 => ?_) (fun h15 => ?_)
                · skip
                  refine J_iload_n dX7_number_75 rfl ?_
                  exact J_iret (ty := .int) hR dX7_number_76 rfl rfl (Nat.le_of_ble_eq_true rfl) (Nat.le_of_ble_eq_true rfl) (jRes_f (by first | (simp only [fX7_number, if_neg h1, if_pos h9, if_neg h11, if_neg h12, if_neg h14, if_pos h15]; done) | rfl | (simp only [fX7_number, if_neg h1, if_pos h9, if_neg h11, if_neg h12, if_neg h14, if_pos h15]; rfl)))
                · skip
                  refine J_bipush (10) dX7_number_46 rfl ?_
                  refine J_iload_n dX7_number_48 rfl ?_
                  refine J_imul dX7_number_49 ?_
                  refine J_aload_n dX7_number_50 rfl rfl ?_
                  refine J_cV0r (mc := mX7_here) hM.1 (by decide) rfl dX7_number_51 mlX7_141 okX7_here (kX7_here S (jset (jset I o 10 0) o 6 (((jset I o 10 0) o 6) + 1)) o hM ((hT.set (by decide)).inc (jdig h12))) (Nat.le_of_ble_eq_true rfl) (Nat.le_of_ble_eq_true rfl) (Nat.le_of_ble_eq_true rfl) (Nat.le_of_ble_eq_true rfl) ?_
                  refine J_iadd dX7_number_54 ?_
                  refine J_bipush (48) dX7_number_55 rfl ?_
                  refine J_isub dX7_number_57 ?_
                  refine J_istore_n dX7_number_58 (Nat.le_of_ble_eq_true rfl) ?_
                  refine J_aload_n dX7_number_59 rfl rfl ?_
                  refine J_dup dX7_number_60 rfl ?_
                  refine J_getI dX7_number_61 flX7_138 rfl hM.1 ?_
                  refine J_iconst (1) dX7_number_64 rfl ?_
                  refine J_iadd dX7_number_65 ?_
                  refine J_putI dX7_number_66 flX7_138 rfl rfl rfl rfl hM.1 ?_
                  refine J_iincv (y := 1) (v := 2) dX7_number_69 rfl rfl rfl ?_
                  refine J_goto (tgt := 27) dX7_number_72 (by decide) ?_
                  refine J_iload_n dX7_number_27 rfl ?_
                  refine J_iconst (2) dX7_number_28 rfl ?_
                  refine J_icmp_ge (tgt := 75) dX7_number_29 (by decide) (fun h16 => ?_) (fun h16 => ?_)
                  · skip
                    refine J_iload_n dX7_number_75 rfl ?_
                    exact J_iret (ty := .int) hR dX7_number_76 rfl rfl (Nat.le_of_ble_eq_true rfl) (Nat.le_of_ble_eq_true rfl) (jRes_f (by first | (simp only [fX7_number, if_neg h1, if_pos h9, if_neg h11, if_neg h12, if_neg h14, if_neg h15]; done) | rfl | (simp only [fX7_number, if_neg h1, if_pos h9, if_neg h11, if_neg h12, if_neg h14, if_neg h15]; rfl)))
                  · skip
                    exact absurd h16 (by decide)
    · skip
      refine J_iconst (1) dX7_number_15 rfl ?_
      refine J_goto (tgt := 20) dX7_number_16 (by decide) ?_
      refine J_putI dX7_number_20 flX7_144 rfl rfl rfl rfl hM.1 ?_
      refine J_iconst (0) dX7_number_23 rfl ?_
      refine J_istore_n dX7_number_24 (Nat.le_of_ble_eq_true rfl) ?_
      refine J_iconst (0) dX7_number_25 rfl ?_
      refine J_istore_n dX7_number_26 (Nat.le_of_ble_eq_true rfl) ?_
      refine J_iload_n dX7_number_27 rfl ?_
      refine J_iconst (2) dX7_number_28 rfl ?_
      refine J_icmp_ge (tgt := 75) dX7_number_29 (by decide) (fun h17 => ?_) (fun h17 => ?_)
      · skip
        exact absurd h17 (by decide)
      · skip
        refine J_aload_n dX7_number_32 rfl rfl ?_
        refine J_getI dX7_number_33 flX7_144 rfl hM.1 ?_
        refine J_if_eq (tgt := 75) dX7_number_36 (by decide) (fun h18 => ?_) (fun h18 => ?_)
        · skip
          refine J_iload_n dX7_number_75 rfl ?_
          exact J_iret (ty := .int) hR dX7_number_76 rfl rfl (Nat.le_of_ble_eq_true rfl) (Nat.le_of_ble_eq_true rfl) (jRes_f (by first | (simp only [fX7_number, if_neg h1, if_neg h9, if_pos h18]; done) | rfl | (simp only [fX7_number, if_neg h1, if_neg h9, if_pos h18]; rfl)))
        · skip
          refine J_aload_n dX7_number_39 rfl rfl ?_
          refine J_cV0r (mc := mX7_isDigit) hM.1 (by decide) rfl dX7_number_40 mlX7_148 okX7_isDigit (kX7_isDigit S (jset I o 10 1) o hM (hT.set (by decide))) (Nat.le_of_ble_eq_true rfl) (Nat.le_of_ble_eq_true rfl) (Nat.le_of_ble_eq_true rfl) (Nat.le_of_ble_eq_true rfl) ?_
          refine J_if_eq (tgt := 75) dX7_number_43 (by decide) (fun h19 => ?_) (fun h19 => ?_)
          · skip
            refine J_iload_n dX7_number_75 rfl ?_
            exact J_iret (ty := .int) hR dX7_number_76 rfl rfl (Nat.le_of_ble_eq_true rfl) (Nat.le_of_ble_eq_true rfl) (jRes_f (by first | (simp only [fX7_number, if_neg h1, if_neg h9, if_neg h18, if_pos h19]; done) | rfl | (simp only [fX7_number, if_neg h1, if_neg h9, if_neg h18, if_pos h19]; rfl)))
          · skip
            refine J_bipush (10) dX7_number_46 rfl ?_
            refine J_iload_n dX7_number_48 rfl ?_
            refine J_imul dX7_number_49 ?_
            refine J_aload_n dX7_number_50 rfl rfl ?_
            refine J_cV0r (mc := mX7_here) hM.1 (by decide) rfl dX7_number_51 mlX7_141 okX7_here (kX7_here S (jset I o 10 1) o hM (hT.set (by decide))) (Nat.le_of_ble_eq_true rfl) (Nat.le_of_ble_eq_true rfl) (Nat.le_of_ble_eq_true rfl) (Nat.le_of_ble_eq_true rfl) ?_
            refine J_iadd dX7_number_54 ?_
            refine J_bipush (48) dX7_number_55 rfl ?_
            refine J_isub dX7_number_57 ?_
            refine J_istore_n dX7_number_58 (Nat.le_of_ble_eq_true rfl) ?_
            refine J_aload_n dX7_number_59 rfl rfl ?_
            refine J_dup dX7_number_60 rfl ?_
            refine J_getI dX7_number_61 flX7_138 rfl hM.1 ?_
            refine J_iconst (1) dX7_number_64 rfl ?_
            refine J_iadd dX7_number_65 ?_
            refine J_putI dX7_number_66 flX7_138 rfl rfl rfl rfl hM.1 ?_
            refine J_iincv (y := 1) (v := 1) dX7_number_69 rfl rfl rfl ?_
            refine J_goto (tgt := 27) dX7_number_72 (by decide) ?_
            refine J_iload_n dX7_number_27 rfl ?_
            refine J_iconst (2) dX7_number_28 rfl ?_
            refine J_icmp_ge (tgt := 75) dX7_number_29 (by decide) (fun h20 => ?_) (fun h20 => ?_)
            · skip
              exact absurd h20 (by decide)
            · skip
              refine J_aload_n dX7_number_32 rfl rfl ?_
              refine J_getI dX7_number_33 flX7_144 rfl hM.1 ?_
              refine J_if_eq (tgt := 75) dX7_number_36 (by decide) (fun h21 => ?_) (fun h21 => ?_)
              · skip
                refine J_iload_n dX7_number_75 rfl ?_
                exact J_iret (ty := .int) hR dX7_number_76 rfl rfl (Nat.le_of_ble_eq_true rfl) (Nat.le_of_ble_eq_true rfl) (jRes_f (by first | (simp only [fX7_number, if_neg h1, if_neg h9, if_neg h18, if_neg h19, if_pos h21]; done) | rfl | (simp only [fX7_number, if_neg h1, if_neg h9, if_neg h18, if_neg h19, if_pos h21]; rfl)))
              · skip
                refine J_aload_n dX7_number_39 rfl rfl ?_
                refine J_cV0r (mc := mX7_isDigit) hM.1 (by decide) rfl dX7_number_40 mlX7_148 okX7_isDigit (kX7_isDigit S (jset (jset I o 10 1) o 6 (((jset I o 10 1) o 6) + 1)) o hM ((hT.set (by decide)).inc (jdig h19))) (Nat.le_of_ble_eq_true rfl) (Nat.le_of_ble_eq_true rfl) (Nat.le_of_ble_eq_true rfl) (Nat.le_of_ble_eq_true rfl) ?_
                refine J_if_eq (tgt := 75) dX7_number_43 (by decide) (fun h22 => ?_) (fun h22 => ?_)
                · skip
                  refine J_iload_n dX7_number_75 rfl ?_
                  exact J_iret (ty := .int) hR dX7_number_76 rfl rfl (Nat.le_of_ble_eq_true rfl) (Nat.le_of_ble_eq_true rfl) (jRes_f (by first | (simp only [fX7_number, if_neg h1, if_neg h9, if_neg h18, if_neg h19, if_neg h21, if_pos h22]; done) | rfl | (simp only [fX7_number, if_neg h1, if_neg h9, if_neg h18, if_neg h19, if_neg h21, if_pos h22]; rfl)))
                · skip
                  refine J_bipush (10) dX7_number_46 rfl ?_
                  refine J_iload_n dX7_number_48 rfl ?_
                  refine J_imul dX7_number_49 ?_
                  refine J_aload_n dX7_number_50 rfl rfl ?_
                  refine J_cV0r (mc := mX7_here) hM.1 (by decide) rfl dX7_number_51 mlX7_141 okX7_here (kX7_here S (jset (jset I o 10 1) o 6 (((jset I o 10 1) o 6) + 1)) o hM ((hT.set (by decide)).inc (jdig h19))) (Nat.le_of_ble_eq_true rfl) (Nat.le_of_ble_eq_true rfl) (Nat.le_of_ble_eq_true rfl) (Nat.le_of_ble_eq_true rfl) ?_
                  refine J_iadd dX7_number_54 ?_
                  refine J_bipush (48) dX7_number_55 rfl ?_
                  refine J_isub dX7_number_57 ?_
                  refine J_istore_n dX7_number_58 (Nat.le_of_ble_eq_true rfl) ?_
                  refine J_aload_n dX7_number_59 rfl rfl ?_
                  refine J_dup dX7_number_60 rfl ?_
                  refine J_getI dX7_number_61 flX7_138 rfl hM.1 ?_
                  refine J_iconst (1) dX7_number_64 rfl ?_
                  refine J_iadd dX7_number_65 ?_
                  refine J_putI dX7_number_66 flX7_138 rfl rfl rfl rfl hM.1 ?_
                  refine J_iincv (y := 1) (v := 2) dX7_number_69 rfl rfl rfl ?_
                  refine J_goto (tgt := 27) dX7_number_72 (by decide) ?_
                  refine J_iload_n dX7_number_27 rfl ?_
                  refine J_iconst (2) dX7_number_28 rfl ?_
                  refine J_icmp_ge (tgt := 75) dX7_number_29 (by decide) (fun h23 => ?_) (fun h23 => ?_)
                  · skip
                    refine J_iload_n dX7_number_75 rfl ?_
                    exact J_iret (ty := .int) hR dX7_number_76 rfl rfl (Nat.le_of_ble_eq_true rfl) (Nat.le_of_ble_eq_true rfl) (jRes_f (by first | (simp only [fX7_number, if_neg h1, if_neg h9, if_neg h18, if_neg h19, if_neg h21, if_neg h22]; done) | rfl | (simp only [fX7_number, if_neg h1, if_neg h9, if_neg h18, if_neg h19, if_neg h21, if_neg h22]; rfl)))
                  · skip
                    exact absurd h23 (by decide)
theorem jlv {I : jI} {o : Nat} (hL : ∃ l : Nat, l ≤ 60 ∧ I o 5 = nI l) (h : ¬ I o 5 = 60) : vp_in (I o 5) 60 := by
  obtain ⟨l, hl, e⟩ := hL
  rw [e] at h ⊢
  refine vp_in_nI ?_ (by decide)
  by_cases h60 : l = 60
  · subst h60; exact absurd rfl h
  · omega
def fX7_type (I : jI) (o : Nat) (x : Int32) : Int32 × jI :=
  if (fX7_in I x 32 126) = 0 then
    ((-2000000001), I)
  else
    if (I o 5) = 60 then
      ((-2000000003), I)
    else
      (((jset (jset I (o + 4) ((I o 5)).toNatClampNeg x) o 5 (((jset I (o + 4) ((I o 5)).toNatClampNeg x) o 5) + 1)) o 5), (jset (jset I (o + 4) ((I o 5)).toNatClampNeg x) o 5 (((jset I (o + 4) ((I o 5)).toNatClampNeg x) o 5) + 1)))
set_option maxRecDepth 100000 in
set_option maxHeartbeats 4000000 in
theorem kX7_type (S : jX) (I : jI) (o : Nat) (x : Int32) (hM : jModel S o) (hL : ∃ l : Nat, l ≤ 60 ∧ I o 5 = nI l) : jM (1, 0, 0) mX7_type [.ref o, .int x] S I (jRes (some (.int (fX7_type I o x).1)) S (fX7_type I o x).2) := by
  refine jM.of (ls := [.ref o, .int x]) (by decide) (Nat.le_of_ble_eq_true rfl) (by intro v hv; simp only [List.mem_cons, List.not_mem_nil, or_false] at hv; rcases hv with rfl | rfl <;> rfl) rfl (fun G hR => ?_)
  refine J_iload_n dX7_type_0 rfl ?_
  refine J_bipush (32) dX7_type_1 rfl ?_
  refine J_bipush (126) dX7_type_3 rfl ?_
  refine J_cS3r (mc := mX7_in) dX7_type_5 mlX7_30 okX7_in (kX7_in S I x 32 126 ) (Nat.le_of_ble_eq_true rfl) (Nat.le_of_ble_eq_true rfl) (Nat.le_of_ble_eq_true rfl) (Nat.le_of_ble_eq_true rfl) ?_
  refine J_if_ne (tgt := 14) dX7_type_8 (by decide) (fun h1 => ?_) (fun h1 => ?_)
  · skip
    refine J_aload_n dX7_type_14 rfl rfl ?_
    refine J_getI dX7_type_15 flX7_135 rfl hM.1 ?_
    refine J_bipush (60) dX7_type_18 rfl ?_
    refine J_icmp_ne (tgt := 26) dX7_type_20 (by decide) (fun h2 => ?_) (fun h2 => ?_)
    · skip
      refine J_aload_n dX7_type_26 rfl rfl ?_
      refine J_getR dX7_type_27 flX7_19 rfl hM.1 hM.r3 ?_
      refine J_aload_n dX7_type_30 rfl rfl ?_
      refine J_getI dX7_type_31 flX7_135 rfl hM.1 ?_
      refine J_iload_n dX7_type_34 rfl ?_
      refine J_iastore dX7_type_35 hM.a3 (jlv hL (by assumption)) ?_
      refine J_aload_n dX7_type_36 rfl rfl ?_
      refine J_dup dX7_type_37 rfl ?_
      refine J_getI dX7_type_38 flX7_135 rfl hM.1 ?_
      refine J_iconst (1) dX7_type_41 rfl ?_
      refine J_iadd dX7_type_42 ?_
      refine J_putI dX7_type_43 flX7_135 rfl rfl rfl rfl hM.1 ?_
      refine J_aload_n dX7_type_46 rfl rfl ?_
      refine J_getI dX7_type_47 flX7_135 rfl hM.1 ?_
      exact J_iret (ty := .int) hR dX7_type_50 rfl rfl (Nat.le_of_ble_eq_true rfl) (Nat.le_of_ble_eq_true rfl) (jRes_f (by first | (simp only [fX7_type, if_neg h1, if_neg h2]; done) | rfl | (simp only [fX7_type, if_neg h1, if_neg h2]; rfl)))
    · skip
      refine J_ldc (-2000000003) dX7_type_23 jw_761 ?_
      exact J_iret (ty := .int) hR dX7_type_25 rfl rfl (Nat.le_of_ble_eq_true rfl) (Nat.le_of_ble_eq_true rfl) (jRes_f (by first | (simp only [fX7_type, if_neg h1, if_pos h2]; done) | rfl | (simp only [fX7_type, if_neg h1, if_pos h2]; rfl)))
  · skip
    refine J_ldc (-2000000001) dX7_type_11 jw_760 ?_
    exact J_iret (ty := .int) hR dX7_type_13 rfl rfl (Nat.le_of_ble_eq_true rfl) (Nat.le_of_ble_eq_true rfl) (jRes_f (by first | (simp only [fX7_type, if_pos h1]; done) | rfl | (simp only [fX7_type, if_pos h1]; rfl)))
theorem jisO {I : jI} {x : Int32} : fX7_isOrder I x = 0 ∨ fX7_isOrder I x = 1 := by
  unfold fX7_isOrder
  repeat' split
  all_goals first | exact Or.inl rfl | exact Or.inr rfl
theorem jisO_1 {I : jI} : fX7_isOrder I (-1) = 0 := rfl
theorem jBf {x : Int32} (h : x = 0 ∨ x = 1) : fits .boolean (.int x) = true := by rcases h with rfl | rfl <;> rfl
def fX7_called (I : jI) (o : Nat) (x : Int32) : Int32 × jI :=
  if x = 98 then
    ((fX7_comes I o (I o 11)).1, (fX7_comes I o (I o 11)).2)
  else
    if x = 102 then
      ((fX7_fires I o (I o 11)).1, (fX7_fires I o (I o 11)).2)
    else
      if x = 105 then
        ((fX7_inspects I o (I o 11) (I o 12)).1, (fX7_inspects I o (I o 11) (I o 12)).2)
      else
        if x = 111 then
          ((fX7_puts I o (I o 11)).1, (fX7_puts I o (I o 11)).2)
        else
          if x = 114 then
            ((fX7_sends I o (I o 11)).1, (fX7_sends I o (I o 11)).2)
          else
            ((fX7_passes I o (I o 11)).1, (fX7_passes I o (I o 11)).2)
set_option maxRecDepth 100000 in
set_option maxHeartbeats 4000000 in
theorem kX7_called (S : jX) (I : jI) (o : Nat) (x : Int32) (hM : jModel S o) (hI : jMInv I o) : jM (6, 0, 0) mX7_called [.ref o, .int x] S I (jRes (some (.int (fX7_called I o x).1)) S (fX7_called I o x).2) := by
  refine jM.of (ls := [.ref o, .int x]) (by decide) (Nat.le_of_ble_eq_true rfl) (by intro v hv; simp only [List.mem_cons, List.not_mem_nil, or_false] at hv; rcases hv with rfl | rfl <;> rfl) rfl (fun G hR => ?_)
  refine J_iload_n dX7_called_0 rfl ?_
  by_cases h1 : x = 98
  · skip
    refine J_look (off := 51) (tgt := 52) dX7_called_1 (by decide) (by rw [h1]; rfl) (by decide) ?_
    refine J_aload_n dX7_called_52 rfl rfl ?_
    refine J_aload_n dX7_called_53 rfl rfl ?_
    refine J_getI dX7_called_54 flX7_152 rfl hM.1 ?_
    refine J_cV1r (mc := mX7_comes) hM.1 (by decide) rfl dX7_called_57 mlX7_100 okX7_comes (kX7_comes S I o (I o 11) hM hI) (Nat.le_of_ble_eq_true rfl) (Nat.le_of_ble_eq_true rfl) (Nat.le_of_ble_eq_true rfl) (Nat.le_of_ble_eq_true rfl) ?_
    exact J_iret (ty := .int) hR dX7_called_60 rfl rfl (Nat.le_of_ble_eq_true rfl) (Nat.le_of_ble_eq_true rfl) (jRes_f (by first | (simp only [fX7_called, if_pos h1]; done) | rfl | (simp only [fX7_called, if_pos h1]; rfl)))
  by_cases h2 : x = 102
  · skip
    refine J_look (off := 73) (tgt := 74) dX7_called_1 (by decide) (by rw [h2]; rfl) (by decide) ?_
    refine J_aload_n dX7_called_74 rfl rfl ?_
    refine J_aload_n dX7_called_75 rfl rfl ?_
    refine J_getI dX7_called_76 flX7_152 rfl hM.1 ?_
    refine J_cV1r (mc := mX7_fires) hM.1 (by decide) rfl dX7_called_79 mlX7_109 okX7_fires (kX7_fires S I o (I o 11) hM hI) (Nat.le_of_ble_eq_true rfl) (Nat.le_of_ble_eq_true rfl) (Nat.le_of_ble_eq_true rfl) (Nat.le_of_ble_eq_true rfl) ?_
    exact J_iret (ty := .int) hR dX7_called_82 rfl rfl (Nat.le_of_ble_eq_true rfl) (Nat.le_of_ble_eq_true rfl) (jRes_f (by first | (simp only [fX7_called, if_neg h1, if_pos h2]; done) | rfl | (simp only [fX7_called, if_neg h1, if_pos h2]; rfl)))
  by_cases h3 : x = 105
  · skip
    refine J_look (off := 60) (tgt := 61) dX7_called_1 (by decide) (by rw [h3]; rfl) (by decide) ?_
    refine J_aload_n dX7_called_61 rfl rfl ?_
    refine J_aload_n dX7_called_62 rfl rfl ?_
    refine J_getI dX7_called_63 flX7_152 rfl hM.1 ?_
    refine J_aload_n dX7_called_66 rfl rfl ?_
    refine J_getI dX7_called_67 flX7_155 rfl hM.1 ?_
    refine J_cV2r (mc := mX7_inspects) hM.1 (by decide) rfl dX7_called_70 mlX7_106 okX7_inspects (kX7_inspects S I o (I o 11) (I o 12) hM hI) (Nat.le_of_ble_eq_true rfl) (Nat.le_of_ble_eq_true rfl) (Nat.le_of_ble_eq_true rfl) (Nat.le_of_ble_eq_true rfl) ?_
    exact J_iret (ty := .int) hR dX7_called_73 rfl rfl (Nat.le_of_ble_eq_true rfl) (Nat.le_of_ble_eq_true rfl) (jRes_f (by first | (simp only [fX7_called, if_neg h1, if_neg h2, if_pos h3]; done) | rfl | (simp only [fX7_called, if_neg h1, if_neg h2, if_pos h3]; rfl)))
  by_cases h4 : x = 111
  · skip
    refine J_look (off := 82) (tgt := 83) dX7_called_1 (by decide) (by rw [h4]; rfl) (by decide) ?_
    refine J_aload_n dX7_called_83 rfl rfl ?_
    refine J_aload_n dX7_called_84 rfl rfl ?_
    refine J_getI dX7_called_85 flX7_152 rfl hM.1 ?_
    refine J_cV1r (mc := mX7_puts) hM.1 (by decide) rfl dX7_called_88 mlX7_112 okX7_puts (kX7_puts S I o (I o 11) hM hI) (Nat.le_of_ble_eq_true rfl) (Nat.le_of_ble_eq_true rfl) (Nat.le_of_ble_eq_true rfl) (Nat.le_of_ble_eq_true rfl) ?_
    exact J_iret (ty := .int) hR dX7_called_91 rfl rfl (Nat.le_of_ble_eq_true rfl) (Nat.le_of_ble_eq_true rfl) (jRes_f (by first | (simp only [fX7_called, if_neg h1, if_neg h2, if_neg h3, if_pos h4]; done) | rfl | (simp only [fX7_called, if_neg h1, if_neg h2, if_neg h3, if_pos h4]; rfl)))
  by_cases h5 : x = 114
  · skip
    refine J_look (off := 91) (tgt := 92) dX7_called_1 (by decide) (by rw [h5]; rfl) (by decide) ?_
    refine J_aload_n dX7_called_92 rfl rfl ?_
    refine J_aload_n dX7_called_93 rfl rfl ?_
    refine J_getI dX7_called_94 flX7_152 rfl hM.1 ?_
    refine J_cV1r (mc := mX7_sends) hM.1 (by decide) rfl dX7_called_97 mlX7_115 okX7_sends (kX7_sends S I o (I o 11) hM hI) (Nat.le_of_ble_eq_true rfl) (Nat.le_of_ble_eq_true rfl) (Nat.le_of_ble_eq_true rfl) (Nat.le_of_ble_eq_true rfl) ?_
    exact J_iret (ty := .int) hR dX7_called_100 rfl rfl (Nat.le_of_ble_eq_true rfl) (Nat.le_of_ble_eq_true rfl) (jRes_f (by first | (simp only [fX7_called, if_neg h1, if_neg h2, if_neg h3, if_neg h4, if_pos h5]; done) | rfl | (simp only [fX7_called, if_neg h1, if_neg h2, if_neg h3, if_neg h4, if_pos h5]; rfl)))
  refine J_look (off := 100) (tgt := 101) dX7_called_1 (by decide) (by show Op.lookupswitch.offset [(98, 51), (102, 73), (105, 60), (111, 82), (114, 91)] (100) (x).toInt = 100; rw [lv_osw h1 (a := 98) rfl, lv_osw h2 (a := 102) rfl, lv_osw h3 (a := 105) rfl, lv_osw h4 (a := 111) rfl, lv_osw h5 (a := 114) rfl]; rfl) (by decide) ?_
  refine J_aload_n dX7_called_101 rfl rfl ?_
  refine J_aload_n dX7_called_102 rfl rfl ?_
  refine J_getI dX7_called_103 flX7_152 rfl hM.1 ?_
  refine J_cV1r (mc := mX7_passes) hM.1 (by decide) rfl dX7_called_106 mlX7_118 okX7_passes (kX7_passes S I o (I o 11) hM hI) (Nat.le_of_ble_eq_true rfl) (Nat.le_of_ble_eq_true rfl) (Nat.le_of_ble_eq_true rfl) (Nat.le_of_ble_eq_true rfl) ?_
  exact J_iret (ty := .int) hR dX7_called_109 rfl rfl (Nat.le_of_ble_eq_true rfl) (Nat.le_of_ble_eq_true rfl) (jRes_f (by first | (simp only [fX7_called, if_neg h1, if_neg h2, if_neg h3, if_neg h4, if_neg h5]; done) | rfl | (simp only [fX7_called, if_neg h1, if_neg h2, if_neg h3, if_neg h4, if_neg h5]; rfl)))
