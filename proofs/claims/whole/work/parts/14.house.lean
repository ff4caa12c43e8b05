def fX2_boilerAt (I : jI) (o : Nat) (x : Int32) : Option Nat :=
  if x < 0 then
    none
  else
    if (I o 4) ≤ x then
      none
    else
      if 8 ≤ x then
        none
      else
        some (o + 5 + x.toNatClampNeg)
set_option maxRecDepth 100000 in
set_option maxHeartbeats 4000000 in
theorem kX2_boilerAt (S : jX) (I : jI) (o : Nat) (x : Int32) (hH : jHouse S o) : jM (0, 0, 0) mX2_boilerAt [.ref o, .int x] S I (jRes (some (va_rf (fX2_boilerAt I o x))) S I) := by
  refine jM.of (ls := [.ref o, .int x, .long 0]) (by decide) (Nat.le_of_ble_eq_true rfl) (by intro v hv; simp only [List.mem_cons, List.not_mem_nil, or_false] at hv; rcases hv with rfl | rfl <;> rfl) rfl (fun G hR => ?_)
  refine J_iload_n dX2_boilerAt_0 rfl ?_
  refine J_if_lt (tgt := 25) dX2_boilerAt_1 (by decide) (fun h1 => ?_) (fun h1 => ?_)
  · skip
    refine J_iconst (0) dX2_boilerAt_25 rfl ?_
    refine J_istore_n dX2_boilerAt_26 (Nat.le_of_ble_eq_true rfl) ?_
    refine J_iload_n dX2_boilerAt_27 rfl ?_
    refine J_if_eq (tgt := 40) dX2_boilerAt_28 (by decide) (fun h2 => ?_) (fun h2 => ?_)
    · skip
      refine J_null dX2_boilerAt_40 ?_
      exact J_aret (C := "BoilerPapers$Boiler") hR dX2_boilerAt_41 rfl rfl (Nat.le_of_ble_eq_true rfl) (Nat.le_of_ble_eq_true rfl) (jRes_o (by first | rfl | (simp only [fX2_boilerAt, if_pos h1]; done) | (simp only [fX2_boilerAt, if_pos h1]; rfl)) rfl)
    · skip
      exact absurd h2 (by decide)
  · skip
    refine J_iload_n dX2_boilerAt_4 rfl ?_
    refine J_aload_n dX2_boilerAt_5 rfl rfl ?_
    refine J_getI dX2_boilerAt_6 flX2_32 rfl hH.1 ?_
    refine J_icmp_ge (tgt := 25) dX2_boilerAt_9 (by decide) (fun h3 => ?_) (fun h3 => ?_)
    · skip
      refine J_iconst (0) dX2_boilerAt_25 rfl ?_
      refine J_istore_n dX2_boilerAt_26 (Nat.le_of_ble_eq_true rfl) ?_
      refine J_iload_n dX2_boilerAt_27 rfl ?_
      refine J_if_eq (tgt := 40) dX2_boilerAt_28 (by decide) (fun h4 => ?_) (fun h4 => ?_)
      · skip
        refine J_null dX2_boilerAt_40 ?_
        exact J_aret (C := "BoilerPapers$Boiler") hR dX2_boilerAt_41 rfl rfl (Nat.le_of_ble_eq_true rfl) (Nat.le_of_ble_eq_true rfl) (jRes_o (by first | rfl | (simp only [fX2_boilerAt, if_neg h1, if_pos h3]; done) | (simp only [fX2_boilerAt, if_neg h1, if_pos h3]; rfl)) rfl)
      · skip
        exact absurd h4 (by decide)
    · skip
      refine J_iload_n dX2_boilerAt_12 rfl ?_
      refine J_aload_n dX2_boilerAt_13 rfl rfl ?_
      refine J_getR dX2_boilerAt_14 flX2_11 rfl hH.1 hH.r0 ?_
      refine J_alen (x := 8) dX2_boilerAt_17 hH.a0 ⟨by decide, by decide⟩ rfl ?_
      refine J_icmp_ge (tgt := 25) dX2_boilerAt_18 (by decide) (fun h5 => ?_) (fun h5 => ?_)
      · skip
        refine J_iconst (0) dX2_boilerAt_25 rfl ?_
        refine J_istore_n dX2_boilerAt_26 (Nat.le_of_ble_eq_true rfl) ?_
        refine J_iload_n dX2_boilerAt_27 rfl ?_
        refine J_if_eq (tgt := 40) dX2_boilerAt_28 (by decide) (fun h6 => ?_) (fun h6 => ?_)
        · skip
          refine J_null dX2_boilerAt_40 ?_
          exact J_aret (C := "BoilerPapers$Boiler") hR dX2_boilerAt_41 rfl rfl (Nat.le_of_ble_eq_true rfl) (Nat.le_of_ble_eq_true rfl) (jRes_o (by first | rfl | (simp only [fX2_boilerAt, if_neg h1, if_neg h3, if_pos h5]; done) | (simp only [fX2_boilerAt, if_neg h1, if_neg h3, if_pos h5]; rfl)) rfl)
        · skip
          exact absurd h6 (by decide)
      · skip
        refine J_iconst (1) dX2_boilerAt_21 rfl ?_
        refine J_goto (tgt := 26) dX2_boilerAt_22 (by decide) ?_
        refine J_istore_n dX2_boilerAt_26 (Nat.le_of_ble_eq_true rfl) ?_
        refine J_iload_n dX2_boilerAt_27 rfl ?_
        refine J_if_eq (tgt := 40) dX2_boilerAt_28 (by decide) (fun h7 => ?_) (fun h7 => ?_)
        · skip
          exact absurd h7 (by decide)
        · skip
          refine J_aload_n dX2_boilerAt_31 rfl rfl ?_
          refine J_getR dX2_boilerAt_32 flX2_11 rfl hH.1 hH.r0 ?_
          refine J_iload_n dX2_boilerAt_35 rfl ?_
          refine J_aaload dX2_boilerAt_36 hH.a0 ⟨by decide, by decide⟩ (jvp_8 (by assumption) (by assumption)) (hH.b (jtn (jvp_8 (by assumption) (by assumption)))).2 ?_
          refine J_goto (tgt := 41) dX2_boilerAt_37 (by decide) ?_
          exact J_aret (C := "BoilerPapers$Boiler") hR dX2_boilerAt_41 rfl rfl (Nat.le_of_ble_eq_true rfl) (Nat.le_of_ble_eq_true rfl) (jRes_o (by first | rfl | (simp only [fX2_boilerAt, if_neg h1, if_neg h3, if_neg h5]; done) | (simp only [fX2_boilerAt, if_neg h1, if_neg h3, if_neg h5]; rfl)) rfl)
theorem kdBoilerAt {S : jX} {I : jI} {o b : Nat} {x : Int32} (hH : jHouse S o) (h : fX2_boilerAt I o x = some b) : jKd S b 0 0 := by
  unfold fX2_boilerAt at h
  by_cases h1 : x < 0
  · rw [if_pos h1] at h; cases h
  · rw [if_neg h1] at h
    by_cases h2 : I o 4 ≤ x
    · rw [if_pos h2] at h; cases h
    · rw [if_neg h2] at h
      by_cases h3 : (8 : Int32) ≤ x
      · rw [if_pos h3] at h; cases h
      · rw [if_neg h3] at h
        cases h
        exact (hH.b (jtn (jvp_8 h1 h3))).1
def fX2_inspectorAt (I : jI) (o : Nat) (x : Int32) : Option Nat :=
  if x < 0 then
    none
  else
    if (I o 5) ≤ x then
      none
    else
      if 6 ≤ x then
        none
      else
        some (o + 13 + x.toNatClampNeg)
set_option maxRecDepth 100000 in
set_option maxHeartbeats 4000000 in
theorem kX2_inspectorAt (S : jX) (I : jI) (o : Nat) (x : Int32) (hH : jHouse S o) : jM (0, 0, 0) mX2_inspectorAt [.ref o, .int x] S I (jRes (some (va_rf (fX2_inspectorAt I o x))) S I) := by
  refine jM.of (ls := [.ref o, .int x, .long 0]) (by decide) (Nat.le_of_ble_eq_true rfl) (by intro v hv; simp only [List.mem_cons, List.not_mem_nil, or_false] at hv; rcases hv with rfl | rfl <;> rfl) rfl (fun G hR => ?_)
  refine J_iload_n dX2_inspectorAt_0 rfl ?_
  refine J_if_lt (tgt := 25) dX2_inspectorAt_1 (by decide) (fun h1 => ?_) (fun h1 => ?_)
  · skip
    refine J_iconst (0) dX2_inspectorAt_25 rfl ?_
    refine J_istore_n dX2_inspectorAt_26 (Nat.le_of_ble_eq_true rfl) ?_
    refine J_iload_n dX2_inspectorAt_27 rfl ?_
    refine J_if_eq (tgt := 40) dX2_inspectorAt_28 (by decide) (fun h2 => ?_) (fun h2 => ?_)
    · skip
      refine J_null dX2_inspectorAt_40 ?_
      exact J_aret (C := "BoilerPapers$Inspector") hR dX2_inspectorAt_41 rfl rfl (Nat.le_of_ble_eq_true rfl) (Nat.le_of_ble_eq_true rfl) (jRes_o (by first | rfl | (simp only [fX2_inspectorAt, if_pos h1]; done) | (simp only [fX2_inspectorAt, if_pos h1]; rfl)) rfl)
    · skip
      exact absurd h2 (by decide)
  · skip
    refine J_iload_n dX2_inspectorAt_4 rfl ?_
    refine J_aload_n dX2_inspectorAt_5 rfl rfl ?_
    refine J_getI dX2_inspectorAt_6 flX2_36 rfl hH.1 ?_
    refine J_icmp_ge (tgt := 25) dX2_inspectorAt_9 (by decide) (fun h3 => ?_) (fun h3 => ?_)
    · skip
      refine J_iconst (0) dX2_inspectorAt_25 rfl ?_
      refine J_istore_n dX2_inspectorAt_26 (Nat.le_of_ble_eq_true rfl) ?_
      refine J_iload_n dX2_inspectorAt_27 rfl ?_
      refine J_if_eq (tgt := 40) dX2_inspectorAt_28 (by decide) (fun h4 => ?_) (fun h4 => ?_)
      · skip
        refine J_null dX2_inspectorAt_40 ?_
        exact J_aret (C := "BoilerPapers$Inspector") hR dX2_inspectorAt_41 rfl rfl (Nat.le_of_ble_eq_true rfl) (Nat.le_of_ble_eq_true rfl) (jRes_o (by first | rfl | (simp only [fX2_inspectorAt, if_neg h1, if_pos h3]; done) | (simp only [fX2_inspectorAt, if_neg h1, if_pos h3]; rfl)) rfl)
      · skip
        exact absurd h4 (by decide)
    · skip
      refine J_iload_n dX2_inspectorAt_12 rfl ?_
      refine J_aload_n dX2_inspectorAt_13 rfl rfl ?_
      refine J_getR dX2_inspectorAt_14 flX2_19 rfl hH.1 hH.r1 ?_
      refine J_alen (x := 6) dX2_inspectorAt_17 hH.a1 ⟨by decide, by decide⟩ rfl ?_
      refine J_icmp_ge (tgt := 25) dX2_inspectorAt_18 (by decide) (fun h5 => ?_) (fun h5 => ?_)
      · skip
        refine J_iconst (0) dX2_inspectorAt_25 rfl ?_
        refine J_istore_n dX2_inspectorAt_26 (Nat.le_of_ble_eq_true rfl) ?_
        refine J_iload_n dX2_inspectorAt_27 rfl ?_
        refine J_if_eq (tgt := 40) dX2_inspectorAt_28 (by decide) (fun h6 => ?_) (fun h6 => ?_)
        · skip
          refine J_null dX2_inspectorAt_40 ?_
          exact J_aret (C := "BoilerPapers$Inspector") hR dX2_inspectorAt_41 rfl rfl (Nat.le_of_ble_eq_true rfl) (Nat.le_of_ble_eq_true rfl) (jRes_o (by first | rfl | (simp only [fX2_inspectorAt, if_neg h1, if_neg h3, if_pos h5]; done) | (simp only [fX2_inspectorAt, if_neg h1, if_neg h3, if_pos h5]; rfl)) rfl)
        · skip
          exact absurd h6 (by decide)
      · skip
        refine J_iconst (1) dX2_inspectorAt_21 rfl ?_
        refine J_goto (tgt := 26) dX2_inspectorAt_22 (by decide) ?_
        refine J_istore_n dX2_inspectorAt_26 (Nat.le_of_ble_eq_true rfl) ?_
        refine J_iload_n dX2_inspectorAt_27 rfl ?_
        refine J_if_eq (tgt := 40) dX2_inspectorAt_28 (by decide) (fun h7 => ?_) (fun h7 => ?_)
        · skip
          exact absurd h7 (by decide)
        · skip
          refine J_aload_n dX2_inspectorAt_31 rfl rfl ?_
          refine J_getR dX2_inspectorAt_32 flX2_19 rfl hH.1 hH.r1 ?_
          refine J_iload_n dX2_inspectorAt_35 rfl ?_
          refine J_aaload dX2_inspectorAt_36 hH.a1 ⟨by decide, by decide⟩ (jvp_6 (by assumption) (by assumption)) (hH.c (jtn (jvp_6 (by assumption) (by assumption)))).2 ?_
          refine J_goto (tgt := 41) dX2_inspectorAt_37 (by decide) ?_
          exact J_aret (C := "BoilerPapers$Inspector") hR dX2_inspectorAt_41 rfl rfl (Nat.le_of_ble_eq_true rfl) (Nat.le_of_ble_eq_true rfl) (jRes_o (by first | rfl | (simp only [fX2_inspectorAt, if_neg h1, if_neg h3, if_neg h5]; done) | (simp only [fX2_inspectorAt, if_neg h1, if_neg h3, if_neg h5]; rfl)) rfl)
theorem kdInspectorAt {S : jX} {I : jI} {o b : Nat} {x : Int32} (hH : jHouse S o) (h : fX2_inspectorAt I o x = some b) : jKd S b 3 0 := by
  unfold fX2_inspectorAt at h
  by_cases h1 : x < 0
  · rw [if_pos h1] at h; cases h
  · rw [if_neg h1] at h
    by_cases h2 : I o 5 ≤ x
    · rw [if_pos h2] at h; cases h
    · rw [if_neg h2] at h
      by_cases h3 : (6 : Int32) ≤ x
      · rw [if_pos h3] at h; cases h
      · rw [if_neg h3] at h
        cases h
        exact (hH.c (jtn (jvp_6 h1 h3))).1
def fX2_settingAt (I : jI) (o : Nat) (x : Int32) : Int32 :=
  if x < 0 then
    (-2000000001)
  else
    if 4 ≤ x then
      (-2000000001)
    else
      (I (o + 3) (x).toNatClampNeg)
set_option maxRecDepth 100000 in
set_option maxHeartbeats 4000000 in
theorem kX2_settingAt (S : jX) (I : jI) (o : Nat) (x : Int32) (hH : jHouse S o) : jM (0, 0, 0) mX2_settingAt [.ref o, .int x] S I (jRes (some (.int (fX2_settingAt I o x))) S I) := by
  refine jM.of (ls := [.ref o, .int x, .long 0]) (by decide) (Nat.le_of_ble_eq_true rfl) (by intro v hv; simp only [List.mem_cons, List.not_mem_nil, or_false] at hv; rcases hv with rfl | rfl <;> rfl) rfl (fun G hR => ?_)
  refine J_iload_n dX2_settingAt_0 rfl ?_
  refine J_if_lt (tgt := 17) dX2_settingAt_1 (by decide) (fun h1 => ?_) (fun h1 => ?_)
  · skip
    refine J_iconst (0) dX2_settingAt_17 rfl ?_
    refine J_istore_n dX2_settingAt_18 (Nat.le_of_ble_eq_true rfl) ?_
    refine J_iload_n dX2_settingAt_19 rfl ?_
    refine J_if_eq (tgt := 32) dX2_settingAt_20 (by decide) (fun h2 => ?_) (fun h2 => ?_)
    · skip
      refine J_ldc (-2000000001) dX2_settingAt_32 jw_262 ?_
      exact J_iret (ty := .int) hR dX2_settingAt_34 rfl rfl (Nat.le_of_ble_eq_true rfl) (Nat.le_of_ble_eq_true rfl) (jRes_i (by first | rfl | (simp only [fX2_settingAt, if_pos h1]; done) | (simp only [fX2_settingAt, if_pos h1]; rfl)) rfl)
    · skip
      exact absurd h2 (by decide)
  · skip
    refine J_iload_n dX2_settingAt_4 rfl ?_
    refine J_aload_n dX2_settingAt_5 rfl rfl ?_
    refine J_getR dX2_settingAt_6 flX2_23 rfl hH.1 hH.r2 ?_
    refine J_alen (x := 4) dX2_settingAt_9 hH.a2 ⟨by decide, by decide⟩ rfl ?_
    refine J_icmp_ge (tgt := 17) dX2_settingAt_10 (by decide) (fun h3 => ?_) (fun h3 => ?_)
    · skip
      refine J_iconst (0) dX2_settingAt_17 rfl ?_
      refine J_istore_n dX2_settingAt_18 (Nat.le_of_ble_eq_true rfl) ?_
      refine J_iload_n dX2_settingAt_19 rfl ?_
      refine J_if_eq (tgt := 32) dX2_settingAt_20 (by decide) (fun h4 => ?_) (fun h4 => ?_)
      · skip
        refine J_ldc (-2000000001) dX2_settingAt_32 jw_262 ?_
        exact J_iret (ty := .int) hR dX2_settingAt_34 rfl rfl (Nat.le_of_ble_eq_true rfl) (Nat.le_of_ble_eq_true rfl) (jRes_i (by first | rfl | (simp only [fX2_settingAt, if_neg h1, if_pos h3]; done) | (simp only [fX2_settingAt, if_neg h1, if_pos h3]; rfl)) rfl)
      · skip
        exact absurd h4 (by decide)
    · skip
      refine J_iconst (1) dX2_settingAt_13 rfl ?_
      refine J_goto (tgt := 18) dX2_settingAt_14 (by decide) ?_
      refine J_istore_n dX2_settingAt_18 (Nat.le_of_ble_eq_true rfl) ?_
      refine J_iload_n dX2_settingAt_19 rfl ?_
      refine J_if_eq (tgt := 32) dX2_settingAt_20 (by decide) (fun h5 => ?_) (fun h5 => ?_)
      · skip
        exact absurd h5 (by decide)
      · skip
        refine J_aload_n dX2_settingAt_23 rfl rfl ?_
        refine J_getR dX2_settingAt_24 flX2_23 rfl hH.1 hH.r2 ?_
        refine J_iload_n dX2_settingAt_27 rfl ?_
        refine J_iaload dX2_settingAt_28 hH.a2 (jvp_4 (by assumption) (by assumption)) ?_
        refine J_goto (tgt := 34) dX2_settingAt_29 (by decide) ?_
        exact J_iret (ty := .int) hR dX2_settingAt_34 rfl rfl (Nat.le_of_ble_eq_true rfl) (Nat.le_of_ble_eq_true rfl) (jRes_i (by first | rfl | (simp only [fX2_settingAt, if_neg h1, if_neg h3]; done) | (simp only [fX2_settingAt, if_neg h1, if_neg h3]; rfl)) rfl)
def fX2_balanceOf (I : jI) (o : Nat) (x : Int32) : Int32 :=
  if x < 0 then
    (-2000000001)
  else
    if 4 ≤ x then
      (-2000000001)
    else
      (I (o + 4) (x).toNatClampNeg)
set_option maxRecDepth 100000 in
set_option maxHeartbeats 4000000 in
theorem kX2_balanceOf (S : jX) (I : jI) (o : Nat) (x : Int32) (hH : jHouse S o) : jM (0, 0, 0) mX2_balanceOf [.ref o, .int x] S I (jRes (some (.int (fX2_balanceOf I o x))) S I) := by
  refine jM.of (ls := [.ref o, .int x, .long 0]) (by decide) (Nat.le_of_ble_eq_true rfl) (by intro v hv; simp only [List.mem_cons, List.not_mem_nil, or_false] at hv; rcases hv with rfl | rfl <;> rfl) rfl (fun G hR => ?_)
  refine J_iload_n dX2_balanceOf_0 rfl ?_
  refine J_if_lt (tgt := 17) dX2_balanceOf_1 (by decide) (fun h1 => ?_) (fun h1 => ?_)
  · skip
    refine J_iconst (0) dX2_balanceOf_17 rfl ?_
    refine J_istore_n dX2_balanceOf_18 (Nat.le_of_ble_eq_true rfl) ?_
    refine J_iload_n dX2_balanceOf_19 rfl ?_
    refine J_if_eq (tgt := 32) dX2_balanceOf_20 (by decide) (fun h2 => ?_) (fun h2 => ?_)
    · skip
      refine J_ldc (-2000000001) dX2_balanceOf_32 jw_262 ?_
      exact J_iret (ty := .int) hR dX2_balanceOf_34 rfl rfl (Nat.le_of_ble_eq_true rfl) (Nat.le_of_ble_eq_true rfl) (jRes_i (by first | rfl | (simp only [fX2_balanceOf, if_pos h1]; done) | (simp only [fX2_balanceOf, if_pos h1]; rfl)) rfl)
    · skip
      exact absurd h2 (by decide)
  · skip
    refine J_iload_n dX2_balanceOf_4 rfl ?_
    refine J_aload_n dX2_balanceOf_5 rfl rfl ?_
    refine J_getR dX2_balanceOf_6 flX2_27 rfl hH.1 hH.r3 ?_
    refine J_alen (x := 4) dX2_balanceOf_9 hH.a3 ⟨by decide, by decide⟩ rfl ?_
    refine J_icmp_ge (tgt := 17) dX2_balanceOf_10 (by decide) (fun h3 => ?_) (fun h3 => ?_)
    · skip
      refine J_iconst (0) dX2_balanceOf_17 rfl ?_
      refine J_istore_n dX2_balanceOf_18 (Nat.le_of_ble_eq_true rfl) ?_
      refine J_iload_n dX2_balanceOf_19 rfl ?_
      refine J_if_eq (tgt := 32) dX2_balanceOf_20 (by decide) (fun h4 => ?_) (fun h4 => ?_)
      · skip
        refine J_ldc (-2000000001) dX2_balanceOf_32 jw_262 ?_
        exact J_iret (ty := .int) hR dX2_balanceOf_34 rfl rfl (Nat.le_of_ble_eq_true rfl) (Nat.le_of_ble_eq_true rfl) (jRes_i (by first | rfl | (simp only [fX2_balanceOf, if_neg h1, if_pos h3]; done) | (simp only [fX2_balanceOf, if_neg h1, if_pos h3]; rfl)) rfl)
      · skip
        exact absurd h4 (by decide)
    · skip
      refine J_iconst (1) dX2_balanceOf_13 rfl ?_
      refine J_goto (tgt := 18) dX2_balanceOf_14 (by decide) ?_
      refine J_istore_n dX2_balanceOf_18 (Nat.le_of_ble_eq_true rfl) ?_
      refine J_iload_n dX2_balanceOf_19 rfl ?_
      refine J_if_eq (tgt := 32) dX2_balanceOf_20 (by decide) (fun h5 => ?_) (fun h5 => ?_)
      · skip
        exact absurd h5 (by decide)
      · skip
        refine J_aload_n dX2_balanceOf_23 rfl rfl ?_
        refine J_getR dX2_balanceOf_24 flX2_27 rfl hH.1 hH.r3 ?_
        refine J_iload_n dX2_balanceOf_27 rfl ?_
        refine J_iaload dX2_balanceOf_28 hH.a3 (jvp_4 (by assumption) (by assumption)) ?_
        refine J_goto (tgt := 34) dX2_balanceOf_29 (by decide) ?_
        exact J_iret (ty := .int) hR dX2_balanceOf_34 rfl rfl (Nat.le_of_ble_eq_true rfl) (Nat.le_of_ble_eq_true rfl) (jRes_i (by first | rfl | (simp only [fX2_balanceOf, if_neg h1, if_neg h3]; done) | (simp only [fX2_balanceOf, if_neg h1, if_neg h3]; rfl)) rfl)
def fX2_ownerPays (I : jI) (o : Nat) (x : Int32) (y : Int32) : jI :=
  if x < 0 then
    I
  else
    if 4 ≤ x then
      I
    else
      (jset (jset I (o + 4) ((3 : Int32).toNatClampNeg) ((I (o + 4) ((3 : Int32).toNatClampNeg)) - y)) (o + 4) (x).toNatClampNeg (((jset I (o + 4) ((3 : Int32).toNatClampNeg) ((I (o + 4) ((3 : Int32).toNatClampNeg)) - y)) (o + 4) (x).toNatClampNeg) + y))
set_option maxRecDepth 100000 in
set_option maxHeartbeats 4000000 in
theorem kX2_ownerPays (S : jX) (I : jI) (o : Nat) (x : Int32) (y : Int32) (hH : jHouse S o) : jM (0, 0, 0) mX2_ownerPays [.ref o, .int x, .int y] S I (jRes none S (fX2_ownerPays I o x y)) := by
  refine jM.of (ls := [.ref o, .int x, .int y]) (by decide) (Nat.le_of_ble_eq_true rfl) (by intro v hv; simp only [List.mem_cons, List.not_mem_nil, or_false] at hv; rcases hv with rfl | rfl | rfl <;> rfl) rfl (fun G hR => ?_)
  refine J_iload_n dX2_ownerPays_0 rfl ?_
  refine J_if_lt (tgt := 22) dX2_ownerPays_1 (by decide) (fun h1 => ?_) (fun h1 => ?_)
  · skip
    exact J_vret hR dX2_ownerPays_22 rfl (Nat.le_of_ble_eq_true rfl) (Nat.le_of_ble_eq_true rfl) (jRes_v (by first | rfl | (simp only [fX2_ownerPays, if_pos h1]; done) | (simp only [fX2_ownerPays, if_pos h1]; rfl)))
  · skip
    refine J_iload_n dX2_ownerPays_4 rfl ?_
    refine J_aload_n dX2_ownerPays_5 rfl rfl ?_
    refine J_getR dX2_ownerPays_6 flX2_27 rfl hH.1 hH.r3 ?_
    refine J_alen (x := 4) dX2_ownerPays_9 hH.a3 ⟨by decide, by decide⟩ rfl ?_
    refine J_icmp_ge (tgt := 22) dX2_ownerPays_10 (by decide) (fun h2 => ?_) (fun h2 => ?_)
    · skip
      exact J_vret hR dX2_ownerPays_22 rfl (Nat.le_of_ble_eq_true rfl) (Nat.le_of_ble_eq_true rfl) (jRes_v (by first | rfl | (simp only [fX2_ownerPays, if_neg h1, if_pos h2]; done) | (simp only [fX2_ownerPays, if_neg h1, if_pos h2]; rfl)))
    · skip
      refine J_iconst (3) dX2_ownerPays_13 rfl ?_
      refine J_aload_n dX2_ownerPays_14 rfl rfl ?_
      refine J_getR dX2_ownerPays_15 flX2_27 rfl hH.1 hH.r3 ?_
      refine J_alen (x := 4) dX2_ownerPays_18 hH.a3 ⟨by decide, by decide⟩ rfl ?_
      refine J_icmp_lt (tgt := 23) dX2_ownerPays_19 (by decide) (fun h3 => ?_) (fun h3 => ?_)
      · skip
        refine J_aload_n dX2_ownerPays_23 rfl rfl ?_
        refine J_getR dX2_ownerPays_24 flX2_27 rfl hH.1 hH.r3 ?_
        refine J_iconst (3) dX2_ownerPays_27 rfl ?_
        refine J_dup2 dX2_ownerPays_28 rfl rfl ?_
        refine J_iaload dX2_ownerPays_29 hH.a3 (by first | exact jvp_4 (by assumption) (by assumption) | (unfold vp_in; decide)) ?_
        refine J_iload_n dX2_ownerPays_30 rfl ?_
        refine J_isub dX2_ownerPays_31 ?_
        refine J_iastore dX2_ownerPays_32 hH.a3 (by first | exact jvp_4 (by assumption) (by assumption) | (unfold vp_in; decide)) ?_
        refine J_aload_n dX2_ownerPays_33 rfl rfl ?_
        refine J_getR dX2_ownerPays_34 flX2_27 rfl hH.1 hH.r3 ?_
        refine J_iload_n dX2_ownerPays_37 rfl ?_
        refine J_dup2 dX2_ownerPays_38 rfl rfl ?_
        refine J_iaload dX2_ownerPays_39 hH.a3 (by first | exact jvp_4 (by assumption) (by assumption) | (unfold vp_in; decide)) ?_
        refine J_iload_n dX2_ownerPays_40 rfl ?_
        refine J_iadd dX2_ownerPays_41 ?_
        refine J_iastore dX2_ownerPays_42 hH.a3 (by first | exact jvp_4 (by assumption) (by assumption) | (unfold vp_in; decide)) ?_
        exact J_vret hR dX2_ownerPays_43 rfl (Nat.le_of_ble_eq_true rfl) (Nat.le_of_ble_eq_true rfl) (jRes_v (by first | rfl | (simp only [fX2_ownerPays, if_neg h1, if_neg h2]; done) | (simp only [fX2_ownerPays, if_neg h1, if_neg h2]; rfl)))
      · skip
        exact absurd h3 (by decide)
def fX6_isInsurer (I : jI) (x : Int32) : Int32 :=
  if x = 0 then
    1
  else
    if x = 1 then
      1
    else
      0
set_option maxRecDepth 100000 in
set_option maxHeartbeats 4000000 in
theorem kX6_isInsurer (S : jX) (I : jI) (x : Int32)  : jM (0, 0, 0) mX6_isInsurer [.int x] S I (jRes (some (.int (fX6_isInsurer I x))) S I) := by
  refine jM.of (ls := [.int x]) (by decide) (Nat.le_of_ble_eq_true rfl) (by intro v hv; simp only [List.mem_cons, List.not_mem_nil, or_false] at hv; rcases hv with rfl <;> rfl) rfl (fun G hR => ?_)
  refine J_iload_n dX6_isInsurer_0 rfl ?_
  refine J_if_eq (tgt := 9) dX6_isInsurer_1 (by decide) (fun h1 => ?_) (fun h1 => ?_)
  · skip
    refine J_iconst (1) dX6_isInsurer_9 rfl ?_
    refine J_goto (tgt := 14) dX6_isInsurer_10 (by decide) ?_
    exact J_iret (ty := .boolean) hR dX6_isInsurer_14 rfl rfl (Nat.le_of_ble_eq_true rfl) (Nat.le_of_ble_eq_true rfl) (jRes_i (by first | rfl | (simp only [fX6_isInsurer, if_pos h1]; done) | (simp only [fX6_isInsurer, if_pos h1]; rfl)) rfl)
  · skip
    refine J_iload_n dX6_isInsurer_4 rfl ?_
    refine J_iconst (1) dX6_isInsurer_5 rfl ?_
    refine J_icmp_ne (tgt := 13) dX6_isInsurer_6 (by decide) (fun h2 => ?_) (fun h2 => ?_)
    · skip
      refine J_iconst (0) dX6_isInsurer_13 rfl ?_
      exact J_iret (ty := .boolean) hR dX6_isInsurer_14 rfl rfl (Nat.le_of_ble_eq_true rfl) (Nat.le_of_ble_eq_true rfl) (jRes_i (by first | rfl | (simp only [fX6_isInsurer, if_neg h1, if_neg h2]; done) | (simp only [fX6_isInsurer, if_neg h1, if_neg h2]; rfl)) rfl)
    · skip
      refine J_iconst (1) dX6_isInsurer_9 rfl ?_
      refine J_goto (tgt := 14) dX6_isInsurer_10 (by decide) ?_
      exact J_iret (ty := .boolean) hR dX6_isInsurer_14 rfl rfl (Nat.le_of_ble_eq_true rfl) (Nat.le_of_ble_eq_true rfl) (jRes_i (by first | rfl | (simp only [fX6_isInsurer, if_neg h1, if_pos h2]; done) | (simp only [fX6_isInsurer, if_neg h1, if_pos h2]; rfl)) rfl)
def fX6_isError (I : jI) (x : Int32) : Int32 :=
  if (-2000000001) < x then
    0
  else
    1
set_option maxRecDepth 100000 in
set_option maxHeartbeats 4000000 in
theorem kX6_isError (S : jX) (I : jI) (x : Int32)  : jM (0, 0, 0) mX6_isError [.int x] S I (jRes (some (.int (fX6_isError I x))) S I) := by
  refine jM.of (ls := [.int x]) (by decide) (Nat.le_of_ble_eq_true rfl) (by intro v hv; simp only [List.mem_cons, List.not_mem_nil, or_false] at hv; rcases hv with rfl <;> rfl) rfl (fun G hR => ?_)
  refine J_iload_n dX6_isError_0 rfl ?_
  refine J_ldc (-2000000001) dX6_isError_1 jw_275 ?_
  refine J_icmp_gt (tgt := 10) dX6_isError_3 (by decide) (fun h1 => ?_) (fun h1 => ?_)
  · skip
    refine J_iconst (0) dX6_isError_10 rfl ?_
    exact J_iret (ty := .boolean) hR dX6_isError_11 rfl rfl (Nat.le_of_ble_eq_true rfl) (Nat.le_of_ble_eq_true rfl) (jRes_i (by first | rfl | (simp only [fX6_isError, if_pos h1]; done) | (simp only [fX6_isError, if_pos h1]; rfl)) rfl)
  · skip
    refine J_iconst (1) dX6_isError_6 rfl ?_
    refine J_goto (tgt := 11) dX6_isError_7 (by decide) ?_
    exact J_iret (ty := .boolean) hR dX6_isError_11 rfl rfl (Nat.le_of_ble_eq_true rfl) (Nat.le_of_ble_eq_true rfl) (jRes_i (by first | rfl | (simp only [fX6_isError, if_neg h1]; done) | (simp only [fX6_isError, if_neg h1]; rfl)) rfl)
def fX2_pressureOffered (I : jI) (o : Nat) (q : Nat) (x : Int32) : Int32 :=
  if (I q 2) ≤ (fX2_settingAt I o x) then
    if x = 0 then
      (fX0_strength I q)
    else
      (((fX0_strength I q) * 9) / 10)
  else
    0
set_option maxRecDepth 100000 in
set_option maxHeartbeats 4000000 in
theorem kX2_pressureOffered (S : jX) (I : jI) (o : Nat) (q : Nat) (x : Int32) (hH : jHouse S o) (hq : jKd S q 0 0) : jM (1, 0, 0) mX2_pressureOffered [.ref o, .ref q, .int x] S I (jRes (some (.int (fX2_pressureOffered I o q x))) S I) := by
  refine jM.of (ls := [.ref o, .ref q, .int x, .long 0]) (by decide) (Nat.le_of_ble_eq_true rfl) (by intro v hv; simp only [List.mem_cons, List.not_mem_nil, or_false] at hv; rcases hv with rfl | rfl | rfl <;> rfl) rfl (fun G hR => ?_)
  refine J_aload_n dX2_pressureOffered_0 rfl rfl ?_
  refine J_getI dX2_pressureOffered_1 flX2_134 rfl hq ?_
  refine J_aload_n dX2_pressureOffered_4 rfl rfl ?_
  refine J_iload_n dX2_pressureOffered_5 rfl ?_
  refine J_cV1r (mc := mX2_settingAt) hH.1 (by decide) rfl dX2_pressureOffered_6 mlX2_118 okX2_settingAt (kX2_settingAt S I o x hH) (Nat.le_of_ble_eq_true rfl) (Nat.le_of_ble_eq_true rfl) (Nat.le_of_ble_eq_true rfl) (Nat.le_of_ble_eq_true rfl) ?_
  refine J_icmp_le (tgt := 14) dX2_pressureOffered_9 (by decide) (fun h1 => ?_) (fun h1 => ?_)
  · skip
    refine J_aload_n dX2_pressureOffered_14 rfl rfl ?_
    refine J_cV0r (mc := mX0_strength) hq (by decide) rfl dX2_pressureOffered_15 mlX2_199 okX0_strength (kX0_strength S I q hq) (Nat.le_of_ble_eq_true rfl) (Nat.le_of_ble_eq_true rfl) (Nat.le_of_ble_eq_true rfl) (Nat.le_of_ble_eq_true rfl) ?_
    refine J_istore_n dX2_pressureOffered_18 (Nat.le_of_ble_eq_true rfl) ?_
    refine J_iload_n dX2_pressureOffered_19 rfl ?_
    refine J_if_ne (tgt := 27) dX2_pressureOffered_20 (by decide) (fun h2 => ?_) (fun h2 => ?_)
    · skip
      refine J_iload_n dX2_pressureOffered_27 rfl ?_
      refine J_bipush (9) dX2_pressureOffered_28 rfl ?_
      refine J_imul dX2_pressureOffered_30 ?_
      refine J_bipush (10) dX2_pressureOffered_31 rfl ?_
      refine J_idiv dX2_pressureOffered_33 (by decide) ?_
      exact J_iret (ty := .int) hR dX2_pressureOffered_34 rfl rfl (Nat.le_of_ble_eq_true rfl) (Nat.le_of_ble_eq_true rfl) (jRes_i (by first | rfl | (simp only [fX2_pressureOffered, if_pos h1, if_neg h2]; done) | (simp only [fX2_pressureOffered, if_pos h1, if_neg h2]; rfl)) rfl)
    · skip
      refine J_iload_n dX2_pressureOffered_23 rfl ?_
      refine J_goto (tgt := 34) dX2_pressureOffered_24 (by decide) ?_
      exact J_iret (ty := .int) hR dX2_pressureOffered_34 rfl rfl (Nat.le_of_ble_eq_true rfl) (Nat.le_of_ble_eq_true rfl) (jRes_i (by first | rfl | (simp only [fX2_pressureOffered, if_pos h1, if_pos h2]; done) | (simp only [fX2_pressureOffered, if_pos h1, if_pos h2]; rfl)) rfl)
  · skip
    refine J_iconst (0) dX2_pressureOffered_12 rfl ?_
    exact J_iret (ty := .int) hR dX2_pressureOffered_13 rfl rfl (Nat.le_of_ble_eq_true rfl) (Nat.le_of_ble_eq_true rfl) (jRes_i (by first | rfl | (simp only [fX2_pressureOffered, if_neg h1]; done) | (simp only [fX2_pressureOffered, if_neg h1]; rfl)) rfl)
def fX2_lastWeekOffered (I : jI) (o : Nat) (q : Nat) (x : Int32) : Int32 :=
  if x = 0 then
    ((I o 6) + (52 - ((I q 2) / 5)))
  else
    ((I o 6) + 40)
set_option maxRecDepth 100000 in
set_option maxHeartbeats 4000000 in
theorem kX2_lastWeekOffered (S : jX) (I : jI) (o : Nat) (q : Nat) (x : Int32) (hH : jHouse S o) (hq : jKd S q 0 0) : jM (0, 0, 0) mX2_lastWeekOffered [.ref o, .ref q, .int x] S I (jRes (some (.int (fX2_lastWeekOffered I o q x))) S I) := by
  refine jM.of (ls := [.ref o, .ref q, .int x]) (by decide) (Nat.le_of_ble_eq_true rfl) (by intro v hv; simp only [List.mem_cons, List.not_mem_nil, or_false] at hv; rcases hv with rfl | rfl | rfl <;> rfl) rfl (fun G hR => ?_)
  refine J_aload_n dX2_lastWeekOffered_0 rfl rfl ?_
  refine J_getI dX2_lastWeekOffered_1 flX2_39 rfl hH.1 ?_
  refine J_iload_n dX2_lastWeekOffered_4 rfl ?_
  refine J_if_ne (tgt := 20) dX2_lastWeekOffered_5 (by decide) (fun h1 => ?_) (fun h1 => ?_)
  · skip
    refine J_bipush (40) dX2_lastWeekOffered_20 rfl ?_
    refine J_iadd dX2_lastWeekOffered_22 ?_
    exact J_iret (ty := .int) hR dX2_lastWeekOffered_23 rfl rfl (Nat.le_of_ble_eq_true rfl) (Nat.le_of_ble_eq_true rfl) (jRes_i (by first | rfl | (simp only [fX2_lastWeekOffered, if_neg h1]; done) | (simp only [fX2_lastWeekOffered, if_neg h1]; rfl)) rfl)
  · skip
    refine J_bipush (52) dX2_lastWeekOffered_8 rfl ?_
    refine J_aload_n dX2_lastWeekOffered_10 rfl rfl ?_
    refine J_getI dX2_lastWeekOffered_11 flX2_134 rfl hq ?_
    refine J_iconst (5) dX2_lastWeekOffered_14 rfl ?_
    refine J_idiv dX2_lastWeekOffered_15 (by decide) ?_
    refine J_isub dX2_lastWeekOffered_16 ?_
    refine J_goto (tgt := 22) dX2_lastWeekOffered_17 (by decide) ?_
    refine J_iadd dX2_lastWeekOffered_22 ?_
    exact J_iret (ty := .int) hR dX2_lastWeekOffered_23 rfl rfl (Nat.le_of_ble_eq_true rfl) (Nat.le_of_ble_eq_true rfl) (jRes_i (by first | rfl | (simp only [fX2_lastWeekOffered, if_pos h1]; done) | (simp only [fX2_lastWeekOffered, if_pos h1]; rfl)) rfl)
def fX2_isOneBetter (I : jI) (o : Nat) (q : Nat) : Int32 :=
  if (fX2_lastWeekOffered I o q 0) = (fX2_lastWeekOffered I o q 1) then
    if (fX2_pressureOffered I o q 1) ≤ (fX2_pressureOffered I o q 0) then
      0
    else
      1
  else
    if (fX2_lastWeekOffered I o q 1) ≤ (fX2_lastWeekOffered I o q 0) then
      0
    else
      1
set_option maxRecDepth 100000 in
set_option maxHeartbeats 4000000 in
theorem kX2_isOneBetter (S : jX) (I : jI) (o : Nat) (q : Nat) (hH : jHouse S o) (hq : jKd S q 0 0) : jM (2, 0, 0) mX2_isOneBetter [.ref o, .ref q] S I (jRes (some (.int (fX2_isOneBetter I o q))) S I) := by
  refine jM.of (ls := [.ref o, .ref q, .long 0, .long 0]) (by decide) (Nat.le_of_ble_eq_true rfl) (by intro v hv; simp only [List.mem_cons, List.not_mem_nil, or_false] at hv; rcases hv with rfl | rfl <;> rfl) rfl (fun G hR => ?_)
  refine J_aload_n dX2_isOneBetter_0 rfl rfl ?_
  refine J_aload_n dX2_isOneBetter_1 rfl rfl ?_
  refine J_iconst (0) dX2_isOneBetter_2 rfl ?_
  refine J_cV2r (mc := mX2_lastWeekOffered) hH.1 (by decide) rfl dX2_isOneBetter_3 mlX2_104 okX2_lastWeekOffered (kX2_lastWeekOffered S I o q 0 hH hq) (Nat.le_of_ble_eq_true rfl) (Nat.le_of_ble_eq_true rfl) (Nat.le_of_ble_eq_true rfl) (Nat.le_of_ble_eq_true rfl) ?_
  refine J_istore_n dX2_isOneBetter_6 (Nat.le_of_ble_eq_true rfl) ?_
  refine J_aload_n dX2_isOneBetter_7 rfl rfl ?_
  refine J_aload_n dX2_isOneBetter_8 rfl rfl ?_
  refine J_iconst (1) dX2_isOneBetter_9 rfl ?_
  refine J_cV2r (mc := mX2_lastWeekOffered) hH.1 (by decide) rfl dX2_isOneBetter_10 mlX2_104 okX2_lastWeekOffered (kX2_lastWeekOffered S I o q 1 hH hq) (Nat.le_of_ble_eq_true rfl) (Nat.le_of_ble_eq_true rfl) (Nat.le_of_ble_eq_true rfl) (Nat.le_of_ble_eq_true rfl) ?_
  refine J_istore_n dX2_isOneBetter_13 (Nat.le_of_ble_eq_true rfl) ?_
  refine J_iload_n dX2_isOneBetter_14 rfl ?_
  refine J_iload_n dX2_isOneBetter_15 rfl ?_
  refine J_icmp_eq (tgt := 30) dX2_isOneBetter_16 (by decide) (fun h1 => ?_) (fun h1 => ?_)
  · skip
    refine J_aload_n dX2_isOneBetter_30 rfl rfl ?_
    refine J_aload_n dX2_isOneBetter_31 rfl rfl ?_
    refine J_iconst (1) dX2_isOneBetter_32 rfl ?_
    refine J_cV2r (mc := mX2_pressureOffered) hH.1 (by decide) rfl dX2_isOneBetter_33 mlX2_100 okX2_pressureOffered (kX2_pressureOffered S I o q 1 hH hq) (Nat.le_of_ble_eq_true rfl) (Nat.le_of_ble_eq_true rfl) (Nat.le_of_ble_eq_true rfl) (Nat.le_of_ble_eq_true rfl) ?_
    refine J_aload_n dX2_isOneBetter_36 rfl rfl ?_
    refine J_aload_n dX2_isOneBetter_37 rfl rfl ?_
    refine J_iconst (0) dX2_isOneBetter_38 rfl ?_
    refine J_cV2r (mc := mX2_pressureOffered) hH.1 (by decide) rfl dX2_isOneBetter_39 mlX2_100 okX2_pressureOffered (kX2_pressureOffered S I o q 0 hH hq) (Nat.le_of_ble_eq_true rfl) (Nat.le_of_ble_eq_true rfl) (Nat.le_of_ble_eq_true rfl) (Nat.le_of_ble_eq_true rfl) ?_
    refine J_icmp_le (tgt := 49) dX2_isOneBetter_42 (by decide) (fun h2 => ?_) (fun h2 => ?_)
    · skip
      refine J_iconst (0) dX2_isOneBetter_49 rfl ?_
      exact J_iret (ty := .boolean) hR dX2_isOneBetter_50 rfl rfl (Nat.le_of_ble_eq_true rfl) (Nat.le_of_ble_eq_true rfl) (jRes_i (by first | rfl | (simp only [fX2_isOneBetter, if_pos h1, if_pos h2]; done) | (simp only [fX2_isOneBetter, if_pos h1, if_pos h2]; rfl)) rfl)
    · skip
      refine J_iconst (1) dX2_isOneBetter_45 rfl ?_
      refine J_goto (tgt := 50) dX2_isOneBetter_46 (by decide) ?_
      exact J_iret (ty := .boolean) hR dX2_isOneBetter_50 rfl rfl (Nat.le_of_ble_eq_true rfl) (Nat.le_of_ble_eq_true rfl) (jRes_i (by first | rfl | (simp only [fX2_isOneBetter, if_pos h1, if_neg h2]; done) | (simp only [fX2_isOneBetter, if_pos h1, if_neg h2]; rfl)) rfl)
  · skip
    refine J_iload_n dX2_isOneBetter_19 rfl ?_
    refine J_iload_n dX2_isOneBetter_20 rfl ?_
    refine J_icmp_le (tgt := 28) dX2_isOneBetter_21 (by decide) (fun h3 => ?_) (fun h3 => ?_)
    · skip
      refine J_iconst (0) dX2_isOneBetter_28 rfl ?_
      exact J_iret (ty := .boolean) hR dX2_isOneBetter_29 rfl rfl (Nat.le_of_ble_eq_true rfl) (Nat.le_of_ble_eq_true rfl) (jRes_i (by first | rfl | (simp only [fX2_isOneBetter, if_neg h1, if_pos h3]; done) | (simp only [fX2_isOneBetter, if_neg h1, if_pos h3]; rfl)) rfl)
    · skip
      refine J_iconst (1) dX2_isOneBetter_24 rfl ?_
      refine J_goto (tgt := 29) dX2_isOneBetter_25 (by decide) ?_
      exact J_iret (ty := .boolean) hR dX2_isOneBetter_29 rfl rfl (Nat.le_of_ble_eq_true rfl) (Nat.le_of_ble_eq_true rfl) (jRes_i (by first | rfl | (simp only [fX2_isOneBetter, if_neg h1, if_neg h3]; done) | (simp only [fX2_isOneBetter, if_neg h1, if_neg h3]; rfl)) rfl)
def fX2_isInSet (I : jI) (o : Nat) (q : Nat) (x : Int32) : Int32 :=
  if x = 3 then
    if (I q 3) = 1 then
      1
    else
      0
  else
    if x = 4 then
      if (I q 3) = 2 then
        1
      else
        0
    else
      if x = 5 then
        (I q 6)
      else
        if x = 6 then
          (I q 7)
        else
          if (fX0_whyNotFiredIn I q (I o 6)) = 0 then
            1
          else
            0
set_option maxRecDepth 100000 in
set_option maxHeartbeats 4000000 in
theorem kX2_isInSet (S : jX) (I : jI) (o : Nat) (q : Nat) (x : Int32) (hH : jHouse S o) (hq : jKd S q 0 0) (hz6 : I q 6 = 0 ∨ I q 6 = 1) (hz7 : I q 7 = 0 ∨ I q 7 = 1) : jM (2, 0, 0) mX2_isInSet [.ref o, .ref q, .int x] S I (jRes (some (.int (fX2_isInSet I o q x))) S I) := by
  refine jM.of (ls := [.ref o, .ref q, .int x]) (by decide) (Nat.le_of_ble_eq_true rfl) (by intro v hv; simp only [List.mem_cons, List.not_mem_nil, or_false] at hv; rcases hv with rfl | rfl | rfl <;> rfl) rfl (fun G hR => ?_)
  refine J_iload_n dX2_isInSet_0 rfl ?_
  by_cases h1 : x = 3
  · skip
    refine J_tabIn (off := 31) (tgt := 32) dX2_isInSet_1 (by rw [h1]; decide) (by rw [h1]; decide) (by rw [h1]; rfl) (by decide) ?_
    refine J_aload_n dX2_isInSet_32 rfl rfl ?_
    refine J_getI dX2_isInSet_33 flX2_83 rfl hq ?_
    refine J_iconst (1) dX2_isInSet_36 rfl ?_
    refine J_icmp_ne (tgt := 44) dX2_isInSet_37 (by decide) (fun h2 => ?_) (fun h2 => ?_)
    · skip
      refine J_iconst (0) dX2_isInSet_44 rfl ?_
      exact J_iret (ty := .boolean) hR dX2_isInSet_45 rfl rfl (Nat.le_of_ble_eq_true rfl) (Nat.le_of_ble_eq_true rfl) (jRes_i (by first | rfl | (simp only [fX2_isInSet, if_pos h1, if_neg h2]; done) | (simp only [fX2_isInSet, if_pos h1, if_neg h2]; rfl)) rfl)
    · skip
      refine J_iconst (1) dX2_isInSet_40 rfl ?_
      refine J_goto (tgt := 45) dX2_isInSet_41 (by decide) ?_
      exact J_iret (ty := .boolean) hR dX2_isInSet_45 rfl rfl (Nat.le_of_ble_eq_true rfl) (Nat.le_of_ble_eq_true rfl) (jRes_i (by first | rfl | (simp only [fX2_isInSet, if_pos h1, if_pos h2]; done) | (simp only [fX2_isInSet, if_pos h1, if_pos h2]; rfl)) rfl)
  by_cases h3 : x = 4
  · skip
    refine J_tabIn (off := 45) (tgt := 46) dX2_isInSet_1 (by rw [h3]; decide) (by rw [h3]; decide) (by rw [h3]; rfl) (by decide) ?_
    refine J_aload_n dX2_isInSet_46 rfl rfl ?_
    refine J_getI dX2_isInSet_47 flX2_83 rfl hq ?_
    refine J_iconst (2) dX2_isInSet_50 rfl ?_
    refine J_icmp_ne (tgt := 58) dX2_isInSet_51 (by decide) (fun h4 => ?_) (fun h4 => ?_)
    · skip
      refine J_iconst (0) dX2_isInSet_58 rfl ?_
      exact J_iret (ty := .boolean) hR dX2_isInSet_59 rfl rfl (Nat.le_of_ble_eq_true rfl) (Nat.le_of_ble_eq_true rfl) (jRes_i (by first | rfl | (simp only [fX2_isInSet, if_neg h1, if_pos h3, if_neg h4]; done) | (simp only [fX2_isInSet, if_neg h1, if_pos h3, if_neg h4]; rfl)) rfl)
    · skip
      refine J_iconst (1) dX2_isInSet_54 rfl ?_
      refine J_goto (tgt := 59) dX2_isInSet_55 (by decide) ?_
      exact J_iret (ty := .boolean) hR dX2_isInSet_59 rfl rfl (Nat.le_of_ble_eq_true rfl) (Nat.le_of_ble_eq_true rfl) (jRes_i (by first | rfl | (simp only [fX2_isInSet, if_neg h1, if_pos h3, if_pos h4]; done) | (simp only [fX2_isInSet, if_neg h1, if_pos h3, if_pos h4]; rfl)) rfl)
  by_cases h5 : x = 5
  · skip
    refine J_tabIn (off := 59) (tgt := 60) dX2_isInSet_1 (by rw [h5]; decide) (by rw [h5]; decide) (by rw [h5]; rfl) (by decide) ?_
    refine J_aload_n dX2_isInSet_60 rfl rfl ?_
    refine J_getI dX2_isInSet_61 flX2_228 rfl hq ?_
    exact J_iret (ty := .boolean) hR dX2_isInSet_64 rfl (jBn hz6) (Nat.le_of_ble_eq_true rfl) (Nat.le_of_ble_eq_true rfl) (jRes_i (by first | rfl | (simp only [fX2_isInSet, if_neg h1, if_neg h3, if_pos h5]; done) | (simp only [fX2_isInSet, if_neg h1, if_neg h3, if_pos h5]; rfl)) rfl)
  by_cases h6 : x = 6
  · skip
    refine J_tabIn (off := 64) (tgt := 65) dX2_isInSet_1 (by rw [h6]; decide) (by rw [h6]; decide) (by rw [h6]; rfl) (by decide) ?_
    refine J_aload_n dX2_isInSet_65 rfl rfl ?_
    refine J_getI dX2_isInSet_66 flX2_231 rfl hq ?_
    exact J_iret (ty := .boolean) hR dX2_isInSet_69 rfl (jBn hz7) (Nat.le_of_ble_eq_true rfl) (Nat.le_of_ble_eq_true rfl) (jRes_i (by first | rfl | (simp only [fX2_isInSet, if_neg h1, if_neg h3, if_neg h5, if_pos h6]; done) | (simp only [fX2_isInSet, if_neg h1, if_neg h3, if_neg h5, if_pos h6]; rfl)) rfl)
  refine J_tabOut (tgt := 70) dX2_isInSet_1 (by have e0 := lv_neT h1 (a := 3) rfl; have e1 := lv_neT h3 (a := 4) rfl; have e2 := lv_neT h5 (a := 5) rfl; have e3 := lv_neT h6 (a := 6) rfl; omega) (by decide) ?_
  refine J_aload_n dX2_isInSet_70 rfl rfl ?_
  refine J_aload_n dX2_isInSet_71 rfl rfl ?_
  refine J_getI dX2_isInSet_72 flX2_39 rfl hH.1 ?_
  refine J_cV1r (mc := mX0_whyNotFiredIn) hq (by decide) rfl dX2_isInSet_75 mlX2_125 okX0_whyNotFiredIn (kX0_whyNotFiredIn S I q (I o 6) hq) (Nat.le_of_ble_eq_true rfl) (Nat.le_of_ble_eq_true rfl) (Nat.le_of_ble_eq_true rfl) (Nat.le_of_ble_eq_true rfl) ?_
  refine J_if_ne (tgt := 85) dX2_isInSet_78 (by decide) (fun h7 => ?_) (fun h7 => ?_)
  · skip
    refine J_iconst (0) dX2_isInSet_85 rfl ?_
    exact J_iret (ty := .boolean) hR dX2_isInSet_86 rfl rfl (Nat.le_of_ble_eq_true rfl) (Nat.le_of_ble_eq_true rfl) (jRes_i (by first | rfl | (simp only [fX2_isInSet, if_neg h1, if_neg h3, if_neg h5, if_neg h6, if_neg h7]; done) | (simp only [fX2_isInSet, if_neg h1, if_neg h3, if_neg h5, if_neg h6, if_neg h7]; rfl)) rfl)
  · skip
    refine J_iconst (1) dX2_isInSet_81 rfl ?_
    refine J_goto (tgt := 86) dX2_isInSet_82 (by decide) ?_
    exact J_iret (ty := .boolean) hR dX2_isInSet_86 rfl rfl (Nat.le_of_ble_eq_true rfl) (Nat.le_of_ble_eq_true rfl) (jRes_i (by first | rfl | (simp only [fX2_isInSet, if_neg h1, if_neg h3, if_neg h5, if_neg h6, if_pos h7]; done) | (simp only [fX2_isInSet, if_neg h1, if_neg h3, if_neg h5, if_neg h6, if_pos h7]; rfl)) rfl)
def fX2_addBoiler (I : jI) (o : Nat) (x : Int32) : Int32 × jI :=
  if x < 2 then
    ((-2000000001), I)
  else
    if x ≤ 40 then
      if (I o 4) < 8 then
        match (fX2_boilerAt (jset I o 4 ((I o 4) + 1)) o (I o 4)) with
        | none =>
          ((I o 4), (jset I o 4 ((I o 4) + 1)))
        | some b5 =>
          ((I o 4), (fX0_begin (jset I o 4 ((I o 4) + 1)) b5 x))
      else
        ((-2000000003), I)
    else
      ((-2000000001), I)
set_option maxRecDepth 100000 in
set_option maxHeartbeats 4000000 in
theorem kX2_addBoiler (S : jX) (I : jI) (o : Nat) (x : Int32) (hH : jHouse S o) : jM (1, 0, 0) mX2_addBoiler [.ref o, .int x] S I (jRes (some (.int (fX2_addBoiler I o x).1)) S (fX2_addBoiler I o x).2) := by
  refine jM.of (ls := [.ref o, .int x, .long 0, .long 0]) (by decide) (Nat.le_of_ble_eq_true rfl) (by intro v hv; simp only [List.mem_cons, List.not_mem_nil, or_false] at hv; rcases hv with rfl | rfl <;> rfl) rfl (fun G hR => ?_)
  refine J_iload_n dX2_addBoiler_0 rfl ?_
  refine J_iconst (2) dX2_addBoiler_1 rfl ?_
  refine J_icmp_lt (tgt := 11) dX2_addBoiler_2 (by decide) (fun h1 => ?_) (fun h1 => ?_)
  · skip
    refine J_ldc (-2000000001) dX2_addBoiler_11 jw_262 ?_
    exact J_iret (ty := .int) hR dX2_addBoiler_13 rfl rfl (Nat.le_of_ble_eq_true rfl) (Nat.le_of_ble_eq_true rfl) (jRes_f (by first | rfl | (simp only [fX2_addBoiler, if_pos h1]; done) | (simp only [fX2_addBoiler, if_pos h1]; rfl)))
  · skip
    refine J_iload_n dX2_addBoiler_5 rfl ?_
    refine J_bipush (40) dX2_addBoiler_6 rfl ?_
    refine J_icmp_le (tgt := 14) dX2_addBoiler_8 (by decide) (fun h2 => ?_) (fun h2 => ?_)
    · skip
      refine J_aload_n dX2_addBoiler_14 rfl rfl ?_
      refine J_getI dX2_addBoiler_15 flX2_32 rfl hH.1 ?_
      refine J_bipush (8) dX2_addBoiler_18 rfl ?_
      refine J_icmp_lt (tgt := 26) dX2_addBoiler_20 (by decide) (fun h3 => ?_) (fun h3 => ?_)
      · skip
        refine J_aload_n dX2_addBoiler_26 rfl rfl ?_
        refine J_getI dX2_addBoiler_27 flX2_32 rfl hH.1 ?_
        refine J_istore_n dX2_addBoiler_30 (Nat.le_of_ble_eq_true rfl) ?_
        refine J_aload_n dX2_addBoiler_31 rfl rfl ?_
        refine J_dup dX2_addBoiler_32 rfl ?_
        refine J_getI dX2_addBoiler_33 flX2_32 rfl hH.1 ?_
        refine J_iconst (1) dX2_addBoiler_36 rfl ?_
        refine J_iadd dX2_addBoiler_37 ?_
        refine J_putI dX2_addBoiler_38 flX2_32 rfl rfl rfl rfl hH.1 ?_
        refine J_aload_n dX2_addBoiler_41 rfl rfl ?_
        refine J_iload_n dX2_addBoiler_42 rfl ?_
        refine J_cV1r (mc := mX2_boilerAt) hH.1 (by decide) rfl dX2_addBoiler_43 mlX2_52 okX2_boilerAt (kX2_boilerAt S (jset I o 4 ((I o 4) + 1)) o (I o 4) hH) (Nat.le_of_ble_eq_true rfl) (Nat.le_of_ble_eq_true rfl) (Nat.le_of_ble_eq_true rfl) (Nat.le_of_ble_eq_true rfl) ?_
        rcases h4 : (fX2_boilerAt (jset I o 4 ((I o 4) + 1)) o (I o 4)) with _ | b5
        · skip
          refine J_astore_n dX2_addBoiler_46 (Nat.le_of_ble_eq_true rfl) rfl ?_
          refine J_aload_n dX2_addBoiler_47 rfl rfl ?_
          refine J_ifnull_n (tgt := 56) dX2_addBoiler_48 (by decide) ?_
          refine J_iload_n dX2_addBoiler_56 rfl ?_
          exact J_iret (ty := .int) hR dX2_addBoiler_57 rfl rfl (Nat.le_of_ble_eq_true rfl) (Nat.le_of_ble_eq_true rfl) (jRes_f (by first | rfl | (simp only [fX2_addBoiler, if_neg h1, if_pos h2, if_pos h3, h4]; done) | (simp only [fX2_addBoiler, if_neg h1, if_pos h2, if_pos h3, h4]; rfl)))
        · skip
          refine J_astore_n dX2_addBoiler_46 (Nat.le_of_ble_eq_true rfl) rfl ?_
          refine J_aload_n dX2_addBoiler_47 rfl rfl ?_
          refine J_ifnull_r dX2_addBoiler_48 ?_
          refine J_aload_n dX2_addBoiler_51 rfl rfl ?_
          refine J_iload_n dX2_addBoiler_52 rfl ?_
          refine J_cV1 (mc := mX0_begin) (kdBoilerAt hH h4) (by decide) rfl dX2_addBoiler_53 mlX2_69 okX0_begin (kX0_begin S (jset I o 4 ((I o 4) + 1)) b5 x (kdBoilerAt hH h4)) (Nat.le_of_ble_eq_true rfl) (Nat.le_of_ble_eq_true rfl) (Nat.le_of_ble_eq_true rfl) (Nat.le_of_ble_eq_true rfl) ?_
          refine J_iload_n dX2_addBoiler_56 rfl ?_
          exact J_iret (ty := .int) hR dX2_addBoiler_57 rfl rfl (Nat.le_of_ble_eq_true rfl) (Nat.le_of_ble_eq_true rfl) (jRes_f (by first | rfl | (simp only [fX2_addBoiler, if_neg h1, if_pos h2, if_pos h3, h4]; done) | (simp only [fX2_addBoiler, if_neg h1, if_pos h2, if_pos h3, h4]; rfl)))
      · skip
        refine J_ldc (-2000000003) dX2_addBoiler_23 jw_263 ?_
        exact J_iret (ty := .int) hR dX2_addBoiler_25 rfl rfl (Nat.le_of_ble_eq_true rfl) (Nat.le_of_ble_eq_true rfl) (jRes_f (by first | rfl | (simp only [fX2_addBoiler, if_neg h1, if_pos h2, if_neg h3]; done) | (simp only [fX2_addBoiler, if_neg h1, if_pos h2, if_neg h3]; rfl)))
    · skip
      refine J_ldc (-2000000001) dX2_addBoiler_11 jw_262 ?_
      exact J_iret (ty := .int) hR dX2_addBoiler_13 rfl rfl (Nat.le_of_ble_eq_true rfl) (Nat.le_of_ble_eq_true rfl) (jRes_f (by first | rfl | (simp only [fX2_addBoiler, if_neg h1, if_neg h2]; done) | (simp only [fX2_addBoiler, if_neg h1, if_neg h2]; rfl)))
def fX2_addInspector (I : jI) (o : Nat) (x : Int32) (y : Int32) : Int32 × jI :=
  if (fX6_isInsurer I x) = 0 then
    ((-2000000001), I)
  else
    if y < 1 then
      ((-2000000001), I)
    else
      if y ≤ 3 then
        if (I o 5) < 6 then
          match (fX2_inspectorAt (jset I o 5 ((I o 5) + 1)) o (I o 5)) with
          | none =>
            ((I o 5), (jset I o 5 ((I o 5) + 1)))
          | some b6 =>
            ((I o 5), (fX3_begin (jset I o 5 ((I o 5) + 1)) b6 x y))
        else
          ((-2000000003), I)
      else
        ((-2000000001), I)
set_option maxRecDepth 100000 in
set_option maxHeartbeats 4000000 in
theorem kX2_addInspector (S : jX) (I : jI) (o : Nat) (x : Int32) (y : Int32) (hH : jHouse S o) : jM (1, 0, 0) mX2_addInspector [.ref o, .int x, .int y] S I (jRes (some (.int (fX2_addInspector I o x y).1)) S (fX2_addInspector I o x y).2) := by
  refine jM.of (ls := [.ref o, .int x, .int y, .long 0, .long 0]) (by decide) (Nat.le_of_ble_eq_true rfl) (by intro v hv; simp only [List.mem_cons, List.not_mem_nil, or_false] at hv; rcases hv with rfl | rfl | rfl <;> rfl) rfl (fun G hR => ?_)
  refine J_iload_n dX2_addInspector_0 rfl ?_
  refine J_cS1r (mc := mX6_isInsurer) dX2_addInspector_1 mlX2_73 okX6_isInsurer (kX6_isInsurer S I x ) (Nat.le_of_ble_eq_true rfl) (Nat.le_of_ble_eq_true rfl) (Nat.le_of_ble_eq_true rfl) (Nat.le_of_ble_eq_true rfl) ?_
  refine J_if_eq (tgt := 17) dX2_addInspector_4 (by decide) (fun h1 => ?_) (fun h1 => ?_)
  · skip
    refine J_ldc (-2000000001) dX2_addInspector_17 jw_262 ?_
    exact J_iret (ty := .int) hR dX2_addInspector_19 rfl rfl (Nat.le_of_ble_eq_true rfl) (Nat.le_of_ble_eq_true rfl) (jRes_f (by first | rfl | (simp only [fX2_addInspector, if_pos h1]; done) | (simp only [fX2_addInspector, if_pos h1]; rfl)))
  · skip
    refine J_iload_n dX2_addInspector_7 rfl ?_
    refine J_iconst (1) dX2_addInspector_8 rfl ?_
    refine J_icmp_lt (tgt := 17) dX2_addInspector_9 (by decide) (fun h2 => ?_) (fun h2 => ?_)
    · skip
      refine J_ldc (-2000000001) dX2_addInspector_17 jw_262 ?_
      exact J_iret (ty := .int) hR dX2_addInspector_19 rfl rfl (Nat.le_of_ble_eq_true rfl) (Nat.le_of_ble_eq_true rfl) (jRes_f (by first | rfl | (simp only [fX2_addInspector, if_neg h1, if_pos h2]; done) | (simp only [fX2_addInspector, if_neg h1, if_pos h2]; rfl)))
    · skip
      refine J_iload_n dX2_addInspector_12 rfl ?_
      refine J_iconst (3) dX2_addInspector_13 rfl ?_
      refine J_icmp_le (tgt := 20) dX2_addInspector_14 (by decide) (fun h3 => ?_) (fun h3 => ?_)
      · skip
        refine J_aload_n dX2_addInspector_20 rfl rfl ?_
        refine J_getI dX2_addInspector_21 flX2_36 rfl hH.1 ?_
        refine J_bipush (6) dX2_addInspector_24 rfl ?_
        refine J_icmp_lt (tgt := 32) dX2_addInspector_26 (by decide) (fun h4 => ?_) (fun h4 => ?_)
        · skip
          refine J_aload_n dX2_addInspector_32 rfl rfl ?_
          refine J_getI dX2_addInspector_33 flX2_36 rfl hH.1 ?_
          refine J_istore_n dX2_addInspector_36 (Nat.le_of_ble_eq_true rfl) ?_
          refine J_aload_n dX2_addInspector_37 rfl rfl ?_
          refine J_dup dX2_addInspector_38 rfl ?_
          refine J_getI dX2_addInspector_39 flX2_36 rfl hH.1 ?_
          refine J_iconst (1) dX2_addInspector_42 rfl ?_
          refine J_iadd dX2_addInspector_43 ?_
          refine J_putI dX2_addInspector_44 flX2_36 rfl rfl rfl rfl hH.1 ?_
          refine J_aload_n dX2_addInspector_47 rfl rfl ?_
          refine J_iload_n dX2_addInspector_48 rfl ?_
          refine J_cV1r (mc := mX2_inspectorAt) hH.1 (by decide) rfl dX2_addInspector_49 mlX2_60 okX2_inspectorAt (kX2_inspectorAt S (jset I o 5 ((I o 5) + 1)) o (I o 5) hH) (Nat.le_of_ble_eq_true rfl) (Nat.le_of_ble_eq_true rfl) (Nat.le_of_ble_eq_true rfl) (Nat.le_of_ble_eq_true rfl) ?_
          rcases h5 : (fX2_inspectorAt (jset I o 5 ((I o 5) + 1)) o (I o 5)) with _ | b6
          · skip
            refine J_astore dX2_addInspector_52 (Nat.le_of_ble_eq_true rfl) rfl ?_
            refine J_aload dX2_addInspector_54 rfl rfl ?_
            refine J_ifnull_n (tgt := 66) dX2_addInspector_56 (by decide) ?_
            refine J_iload_n dX2_addInspector_66 rfl ?_
            exact J_iret (ty := .int) hR dX2_addInspector_67 rfl rfl (Nat.le_of_ble_eq_true rfl) (Nat.le_of_ble_eq_true rfl) (jRes_f (by first | rfl | (simp only [fX2_addInspector, if_neg h1, if_neg h2, if_pos h3, if_pos h4, h5]; done) | (simp only [fX2_addInspector, if_neg h1, if_neg h2, if_pos h3, if_pos h4, h5]; rfl)))
          · skip
            refine J_astore dX2_addInspector_52 (Nat.le_of_ble_eq_true rfl) rfl ?_
            refine J_aload dX2_addInspector_54 rfl rfl ?_
            refine J_ifnull_r dX2_addInspector_56 ?_
            refine J_aload dX2_addInspector_59 rfl rfl ?_
            refine J_iload_n dX2_addInspector_61 rfl ?_
            refine J_iload_n dX2_addInspector_62 rfl ?_
            refine J_cV2 (mc := mX3_begin) (kdInspectorAt hH h5) (by decide) rfl dX2_addInspector_63 mlX2_77 okX3_begin (kX3_begin S (jset I o 5 ((I o 5) + 1)) b6 x y (kdInspectorAt hH h5)) (Nat.le_of_ble_eq_true rfl) (Nat.le_of_ble_eq_true rfl) (Nat.le_of_ble_eq_true rfl) (Nat.le_of_ble_eq_true rfl) ?_
            refine J_iload_n dX2_addInspector_66 rfl ?_
            exact J_iret (ty := .int) hR dX2_addInspector_67 rfl rfl (Nat.le_of_ble_eq_true rfl) (Nat.le_of_ble_eq_true rfl) (jRes_f (by first | rfl | (simp only [fX2_addInspector, if_neg h1, if_neg h2, if_pos h3, if_pos h4, h5]; done) | (simp only [fX2_addInspector, if_neg h1, if_neg h2, if_pos h3, if_pos h4, h5]; rfl)))
        · skip
          refine J_ldc (-2000000003) dX2_addInspector_29 jw_263 ?_
          exact J_iret (ty := .int) hR dX2_addInspector_31 rfl rfl (Nat.le_of_ble_eq_true rfl) (Nat.le_of_ble_eq_true rfl) (jRes_f (by first | rfl | (simp only [fX2_addInspector, if_neg h1, if_neg h2, if_pos h3, if_neg h4]; done) | (simp only [fX2_addInspector, if_neg h1, if_neg h2, if_pos h3, if_neg h4]; rfl)))
      · skip
        refine J_ldc (-2000000001) dX2_addInspector_17 jw_262 ?_
        exact J_iret (ty := .int) hR dX2_addInspector_19 rfl rfl (Nat.le_of_ble_eq_true rfl) (Nat.le_of_ble_eq_true rfl) (jRes_f (by first | rfl | (simp only [fX2_addInspector, if_neg h1, if_neg h2, if_neg h3]; done) | (simp only [fX2_addInspector, if_neg h1, if_neg h2, if_neg h3]; rfl)))
def fX2_changePressure (I : jI) (o : Nat) (x : Int32) (y : Int32) : Int32 × jI :=
  match (fX2_boilerAt I o x) with
  | none =>
    ((-2000000001), I)
  | some b2 =>
    if y < 1 then
      ((-2000000001), I)
    else
      if y ≤ (I b2 0) then
        if (I b2 3) = 1 then
          if y ≤ (I b2 9) then
            ((I b2 1), (jset I b2 1 y))
          else
            ((-2000000002), I)
        else
          ((I b2 1), (jset I b2 1 y))
      else
        ((-2000000001), I)
set_option maxRecDepth 100000 in
set_option maxHeartbeats 4000000 in
theorem kX2_changePressure (S : jX) (I : jI) (o : Nat) (x : Int32) (y : Int32) (hH : jHouse S o) : jM (1, 0, 0) mX2_changePressure [.ref o, .int x, .int y] S I (jRes (some (.int (fX2_changePressure I o x y).1)) S (fX2_changePressure I o x y).2) := by
  refine jM.of (ls := [.ref o, .int x, .int y, .long 0, .long 0]) (by decide) (Nat.le_of_ble_eq_true rfl) (by intro v hv; simp only [List.mem_cons, List.not_mem_nil, or_false] at hv; rcases hv with rfl | rfl | rfl <;> rfl) rfl (fun G hR => ?_)
  refine J_aload_n dX2_changePressure_0 rfl rfl ?_
  refine J_iload_n dX2_changePressure_1 rfl ?_
  refine J_cV1r (mc := mX2_boilerAt) hH.1 (by decide) rfl dX2_changePressure_2 mlX2_52 okX2_boilerAt (kX2_boilerAt S I o x hH) (Nat.le_of_ble_eq_true rfl) (Nat.le_of_ble_eq_true rfl) (Nat.le_of_ble_eq_true rfl) (Nat.le_of_ble_eq_true rfl) ?_
  rcases h1 : (fX2_boilerAt I o x) with _ | b2
  · skip
    refine J_astore_n dX2_changePressure_5 (Nat.le_of_ble_eq_true rfl) rfl ?_
    refine J_aload_n dX2_changePressure_6 rfl rfl ?_
    refine J_ifnull_n (tgt := 23) dX2_changePressure_7 (by decide) ?_
    refine J_ldc (-2000000001) dX2_changePressure_23 jw_262 ?_
    exact J_iret (ty := .int) hR dX2_changePressure_25 rfl rfl (Nat.le_of_ble_eq_true rfl) (Nat.le_of_ble_eq_true rfl) (jRes_f (by first | rfl | (simp only [fX2_changePressure, h1]; done) | (simp only [fX2_changePressure, h1]; rfl)))
  · skip
    refine J_astore_n dX2_changePressure_5 (Nat.le_of_ble_eq_true rfl) rfl ?_
    refine J_aload_n dX2_changePressure_6 rfl rfl ?_
    refine J_ifnull_r dX2_changePressure_7 ?_
    refine J_iload_n dX2_changePressure_10 rfl ?_
    refine J_iconst (1) dX2_changePressure_11 rfl ?_
    refine J_icmp_lt (tgt := 23) dX2_changePressure_12 (by decide) (fun h3 => ?_) (fun h3 => ?_)
    · skip
      refine J_ldc (-2000000001) dX2_changePressure_23 jw_262 ?_
      exact J_iret (ty := .int) hR dX2_changePressure_25 rfl rfl (Nat.le_of_ble_eq_true rfl) (Nat.le_of_ble_eq_true rfl) (jRes_f (by first | rfl | (simp only [fX2_changePressure, h1, if_pos h3]; done) | (simp only [fX2_changePressure, h1, if_pos h3]; rfl)))
    · skip
      refine J_iload_n dX2_changePressure_15 rfl ?_
      refine J_aload_n dX2_changePressure_16 rfl rfl ?_
      refine J_getI dX2_changePressure_17 flX2_80 rfl (kdBoilerAt hH h1) ?_
      refine J_icmp_le (tgt := 26) dX2_changePressure_20 (by decide) (fun h4 => ?_) (fun h4 => ?_)
      · skip
        refine J_aload_n dX2_changePressure_26 rfl rfl ?_
        refine J_getI dX2_changePressure_27 flX2_83 rfl (kdBoilerAt hH h1) ?_
        refine J_iconst (1) dX2_changePressure_30 rfl ?_
        refine J_icmp_ne (tgt := 45) dX2_changePressure_31 (by decide) (fun h5 => ?_) (fun h5 => ?_)
        · skip
          refine J_aload_n dX2_changePressure_45 rfl rfl ?_
          refine J_getI dX2_changePressure_46 flX2_90 rfl (kdBoilerAt hH h1) ?_
          refine J_istore dX2_changePressure_49 (Nat.le_of_ble_eq_true rfl) ?_
          refine J_aload_n dX2_changePressure_51 rfl rfl ?_
          refine J_iload_n dX2_changePressure_52 rfl ?_
          refine J_putI dX2_changePressure_53 flX2_90 rfl rfl rfl rfl (kdBoilerAt hH h1) ?_
          refine J_iload dX2_changePressure_56 rfl ?_
          exact J_iret (ty := .int) hR dX2_changePressure_58 rfl rfl (Nat.le_of_ble_eq_true rfl) (Nat.le_of_ble_eq_true rfl) (jRes_f (by first | rfl | (simp only [fX2_changePressure, h1, if_neg h3, if_pos h4, if_neg h5]; done) | (simp only [fX2_changePressure, h1, if_neg h3, if_pos h4, if_neg h5]; rfl)))
        · skip
          refine J_iload_n dX2_changePressure_34 rfl ?_
          refine J_aload_n dX2_changePressure_35 rfl rfl ?_
          refine J_getI dX2_changePressure_36 flX2_86 rfl (kdBoilerAt hH h1) ?_
          refine J_icmp_le (tgt := 45) dX2_changePressure_39 (by decide) (fun h6 => ?_) (fun h6 => ?_)
          · skip
            refine J_aload_n dX2_changePressure_45 rfl rfl ?_
            refine J_getI dX2_changePressure_46 flX2_90 rfl (kdBoilerAt hH h1) ?_
            refine J_istore dX2_changePressure_49 (Nat.le_of_ble_eq_true rfl) ?_
            refine J_aload_n dX2_changePressure_51 rfl rfl ?_
            refine J_iload_n dX2_changePressure_52 rfl ?_
            refine J_putI dX2_changePressure_53 flX2_90 rfl rfl rfl rfl (kdBoilerAt hH h1) ?_
            refine J_iload dX2_changePressure_56 rfl ?_
            exact J_iret (ty := .int) hR dX2_changePressure_58 rfl rfl (Nat.le_of_ble_eq_true rfl) (Nat.le_of_ble_eq_true rfl) (jRes_f (by first | rfl | (simp only [fX2_changePressure, h1, if_neg h3, if_pos h4, if_pos h5, if_pos h6]; done) | (simp only [fX2_changePressure, h1, if_neg h3, if_pos h4, if_pos h5, if_pos h6]; rfl)))
          · skip
            refine J_ldc (-2000000002) dX2_changePressure_42 jw_311 ?_
            exact J_iret (ty := .int) hR dX2_changePressure_44 rfl rfl (Nat.le_of_ble_eq_true rfl) (Nat.le_of_ble_eq_true rfl) (jRes_f (by first | rfl | (simp only [fX2_changePressure, h1, if_neg h3, if_pos h4, if_pos h5, if_neg h6]; done) | (simp only [fX2_changePressure, h1, if_neg h3, if_pos h4, if_pos h5, if_neg h6]; rfl)))
      · skip
        refine J_ldc (-2000000001) dX2_changePressure_23 jw_262 ?_
        exact J_iret (ty := .int) hR dX2_changePressure_25 rfl rfl (Nat.le_of_ble_eq_true rfl) (Nat.le_of_ble_eq_true rfl) (jRes_f (by first | rfl | (simp only [fX2_changePressure, h1, if_neg h3, if_neg h4]; done) | (simp only [fX2_changePressure, h1, if_neg h3, if_neg h4]; rfl)))
def fX2_examine (I : jI) (o : Nat) (x : Int32) (y : Int32) : Int32 × jI :=
  match (fX2_boilerAt I o x) with
  | none =>
    match (fX2_inspectorAt I o y) with
    | none =>
      ((-2000000001), I)
    | some b4 =>
      ((-2000000001), I)
  | some b2 =>
    match (fX2_inspectorAt I o y) with
    | none =>
      ((-2000000001), I)
    | some b6 =>
      if (fX0_whyNotInspectedBy I b2 b6) = 0 then
        if (fX2_pressureOffered I o b2 (I b6 0)) ≤ 0 then
          ((fX2_pressureOffered I o b2 (I b6 0)), (fX2_ownerPays (fX3_noteInspection (fX0_refusePaper I b2) b6 0) o ((fX3_noteInspection (fX0_refusePaper I b2) b6 0) b6 0) (fX2_settingAt (fX3_noteInspection (fX0_refusePaper I b2) b6 0) o 2)))
        else
          ((fX2_pressureOffered I o b2 (I b6 0)), (fX2_ownerPays (fX3_noteInspection (fX0_takePaper I b2 (I b6 0) (fX2_pressureOffered I o b2 (I b6 0)) (fX2_lastWeekOffered I o b2 (I b6 0))) b6 1) o ((fX3_noteInspection (fX0_takePaper I b2 (I b6 0) (fX2_pressureOffered I o b2 (I b6 0)) (fX2_lastWeekOffered I o b2 (I b6 0))) b6 1) b6 0) (fX2_settingAt (fX3_noteInspection (fX0_takePaper I b2 (I b6 0) (fX2_pressureOffered I o b2 (I b6 0)) (fX2_lastWeekOffered I o b2 (I b6 0))) b6 1) o 2)))
      else
        ((-2000000002), I)
set_option maxRecDepth 100000 in
set_option maxHeartbeats 4000000 in
theorem kX2_examine (S : jX) (I : jI) (o : Nat) (x : Int32) (y : Int32) (hH : jHouse S o) : jM (2, 0, 0) mX2_examine [.ref o, .int x, .int y] S I (jRes (some (.int (fX2_examine I o x y).1)) S (fX2_examine I o x y).2) := by
  refine jM.of (ls := [.ref o, .int x, .int y, .long 0, .long 0, .long 0, .long 0]) (by decide) (Nat.le_of_ble_eq_true rfl) (by intro v hv; simp only [List.mem_cons, List.not_mem_nil, or_false] at hv; rcases hv with rfl | rfl | rfl <;> rfl) rfl (fun G hR => ?_)
  refine J_aload_n dX2_examine_0 rfl rfl ?_
  refine J_iload_n dX2_examine_1 rfl ?_
  refine J_cV1r (mc := mX2_boilerAt) hH.1 (by decide) rfl dX2_examine_2 mlX2_52 okX2_boilerAt (kX2_boilerAt S I o x hH) (Nat.le_of_ble_eq_true rfl) (Nat.le_of_ble_eq_true rfl) (Nat.le_of_ble_eq_true rfl) (Nat.le_of_ble_eq_true rfl) ?_
  rcases h1 : (fX2_boilerAt I o x) with _ | b2
  · skip
    refine J_astore_n dX2_examine_5 (Nat.le_of_ble_eq_true rfl) rfl ?_
    refine J_aload_n dX2_examine_6 rfl rfl ?_
    refine J_iload_n dX2_examine_7 rfl ?_
    refine J_cV1r (mc := mX2_inspectorAt) hH.1 (by decide) rfl dX2_examine_8 mlX2_60 okX2_inspectorAt (kX2_inspectorAt S I o y hH) (Nat.le_of_ble_eq_true rfl) (Nat.le_of_ble_eq_true rfl) (Nat.le_of_ble_eq_true rfl) (Nat.le_of_ble_eq_true rfl) ?_
    rcases h3 : (fX2_inspectorAt I o y) with _ | b4
    · skip
      refine J_astore dX2_examine_11 (Nat.le_of_ble_eq_true rfl) rfl ?_
      refine J_aload_n dX2_examine_13 rfl rfl ?_
      refine J_ifnull_n (tgt := 22) dX2_examine_14 (by decide) ?_
      refine J_ldc (-2000000001) dX2_examine_22 jw_262 ?_
      exact J_iret (ty := .int) hR dX2_examine_24 rfl rfl (Nat.le_of_ble_eq_true rfl) (Nat.le_of_ble_eq_true rfl) (jRes_f (by first | rfl | (simp only [fX2_examine, h1, h3]; done) | (simp only [fX2_examine, h1, h3]; rfl)))
    · skip
      refine J_astore dX2_examine_11 (Nat.le_of_ble_eq_true rfl) rfl ?_
      refine J_aload_n dX2_examine_13 rfl rfl ?_
      refine J_ifnull_n (tgt := 22) dX2_examine_14 (by decide) ?_
      refine J_ldc (-2000000001) dX2_examine_22 jw_262 ?_
      exact J_iret (ty := .int) hR dX2_examine_24 rfl rfl (Nat.le_of_ble_eq_true rfl) (Nat.le_of_ble_eq_true rfl) (jRes_f (by first | rfl | (simp only [fX2_examine, h1, h3]; done) | (simp only [fX2_examine, h1, h3]; rfl)))
  · skip
    refine J_astore_n dX2_examine_5 (Nat.le_of_ble_eq_true rfl) rfl ?_
    refine J_aload_n dX2_examine_6 rfl rfl ?_
    refine J_iload_n dX2_examine_7 rfl ?_
    refine J_cV1r (mc := mX2_inspectorAt) hH.1 (by decide) rfl dX2_examine_8 mlX2_60 okX2_inspectorAt (kX2_inspectorAt S I o y hH) (Nat.le_of_ble_eq_true rfl) (Nat.le_of_ble_eq_true rfl) (Nat.le_of_ble_eq_true rfl) (Nat.le_of_ble_eq_true rfl) ?_
    rcases h5 : (fX2_inspectorAt I o y) with _ | b6
    · skip
      refine J_astore dX2_examine_11 (Nat.le_of_ble_eq_true rfl) rfl ?_
      refine J_aload_n dX2_examine_13 rfl rfl ?_
      refine J_ifnull_r dX2_examine_14 ?_
      refine J_aload dX2_examine_17 rfl rfl ?_
      refine J_ifnonnull_n dX2_examine_19 ?_
      refine J_ldc (-2000000001) dX2_examine_22 jw_262 ?_
      exact J_iret (ty := .int) hR dX2_examine_24 rfl rfl (Nat.le_of_ble_eq_true rfl) (Nat.le_of_ble_eq_true rfl) (jRes_f (by first | rfl | (simp only [fX2_examine, h1, h5]; done) | (simp only [fX2_examine, h1, h5]; rfl)))
    · skip
      refine J_astore dX2_examine_11 (Nat.le_of_ble_eq_true rfl) rfl ?_
      refine J_aload_n dX2_examine_13 rfl rfl ?_
      refine J_ifnull_r dX2_examine_14 ?_
      refine J_aload dX2_examine_17 rfl rfl ?_
      refine J_ifnonnull_r (tgt := 25) dX2_examine_19 (by decide) ?_
      refine J_aload_n dX2_examine_25 rfl rfl ?_
      refine J_aload dX2_examine_26 rfl rfl ?_
      refine J_cV1r (mc := mX0_whyNotInspectedBy) (kdBoilerAt hH h1) (by decide) rfl dX2_examine_28 mlX2_93 okX0_whyNotInspectedBy (kX0_whyNotInspectedBy S I b2 b6 (kdBoilerAt hH h1) (kdInspectorAt hH h5)) (Nat.le_of_ble_eq_true rfl) (Nat.le_of_ble_eq_true rfl) (Nat.le_of_ble_eq_true rfl) (Nat.le_of_ble_eq_true rfl) ?_
      refine J_if_eq (tgt := 37) dX2_examine_31 (by decide) (fun h7 => ?_) (fun h7 => ?_)
      · skip
        refine J_aload_n dX2_examine_37 rfl rfl ?_
        refine J_aload_n dX2_examine_38 rfl rfl ?_
        refine J_aload dX2_examine_39 rfl rfl ?_
        refine J_getI dX2_examine_41 flX2_97 rfl (kdInspectorAt hH h5) ?_
        refine J_cV2r (mc := mX2_pressureOffered) hH.1 (by decide) rfl dX2_examine_44 mlX2_100 okX2_pressureOffered (kX2_pressureOffered S I o b2 (I b6 0) hH (kdBoilerAt hH h1)) (Nat.le_of_ble_eq_true rfl) (Nat.le_of_ble_eq_true rfl) (Nat.le_of_ble_eq_true rfl) (Nat.le_of_ble_eq_true rfl) ?_
        refine J_istore dX2_examine_47 (Nat.le_of_ble_eq_true rfl) ?_
        refine J_iload dX2_examine_49 rfl ?_
        refine J_if_le (tgt := 82) dX2_examine_51 (by decide) (fun h8 => ?_) (fun h8 => ?_)
        · skip
          refine J_aload_n dX2_examine_82 rfl rfl ?_
          refine J_cV0 (mc := mX0_refusePaper) (kdBoilerAt hH h1) (by decide) rfl dX2_examine_83 mlX2_111 okX0_refusePaper (kX0_refusePaper S I b2 (kdBoilerAt hH h1)) (Nat.le_of_ble_eq_true rfl) (Nat.le_of_ble_eq_true rfl) (Nat.le_of_ble_eq_true rfl) (Nat.le_of_ble_eq_true rfl) ?_
          refine J_aload dX2_examine_86 rfl rfl ?_
          refine J_iload dX2_examine_88 rfl ?_
          refine J_if_le (tgt := 97) dX2_examine_90 (by decide) (fun h9 => ?_) (fun h9 => ?_)
          · skip
            refine J_iconst (0) dX2_examine_97 rfl ?_
            refine J_cV1 (mc := mX3_noteInspection) (kdInspectorAt hH h5) (by decide) rfl dX2_examine_98 mlX2_114 okX3_noteInspection (kX3_noteInspection S (fX0_refusePaper I b2) b6 0 (kdInspectorAt hH h5)) (Nat.le_of_ble_eq_true rfl) (Nat.le_of_ble_eq_true rfl) (Nat.le_of_ble_eq_true rfl) (Nat.le_of_ble_eq_true rfl) ?_
            refine J_aload_n dX2_examine_101 rfl rfl ?_
            refine J_aload dX2_examine_102 rfl rfl ?_
            refine J_getI dX2_examine_104 flX2_97 rfl (kdInspectorAt hH h5) ?_
            refine J_aload_n dX2_examine_107 rfl rfl ?_
            refine J_iconst (2) dX2_examine_108 rfl ?_
            refine J_cV1r (mc := mX2_settingAt) hH.1 (by decide) rfl dX2_examine_109 mlX2_118 okX2_settingAt (kX2_settingAt S (fX3_noteInspection (fX0_refusePaper I b2) b6 0) o 2 hH) (Nat.le_of_ble_eq_true rfl) (Nat.le_of_ble_eq_true rfl) (Nat.le_of_ble_eq_true rfl) (Nat.le_of_ble_eq_true rfl) ?_
            refine J_cV2 (mc := mX2_ownerPays) hH.1 (by decide) rfl dX2_examine_112 mlX2_122 okX2_ownerPays (kX2_ownerPays S (fX3_noteInspection (fX0_refusePaper I b2) b6 0) o ((fX3_noteInspection (fX0_refusePaper I b2) b6 0) b6 0) (fX2_settingAt (fX3_noteInspection (fX0_refusePaper I b2) b6 0) o 2) hH) (Nat.le_of_ble_eq_true rfl) (Nat.le_of_ble_eq_true rfl) (Nat.le_of_ble_eq_true rfl) (Nat.le_of_ble_eq_true rfl) ?_
            refine J_iload dX2_examine_115 rfl ?_
            exact J_iret (ty := .int) hR dX2_examine_117 rfl rfl (Nat.le_of_ble_eq_true rfl) (Nat.le_of_ble_eq_true rfl) (jRes_f (by first | rfl | (simp only [fX2_examine, h1, h5, if_pos h7, if_pos h8]; done) | (simp only [fX2_examine, h1, h5, if_pos h7, if_pos h8]; rfl)))
          · skip
            exact absurd h8 h9
        · skip
          refine J_aload_n dX2_examine_54 rfl rfl ?_
          refine J_aload_n dX2_examine_55 rfl rfl ?_
          refine J_aload dX2_examine_56 rfl rfl ?_
          refine J_getI dX2_examine_58 flX2_97 rfl (kdInspectorAt hH h5) ?_
          refine J_cV2r (mc := mX2_lastWeekOffered) hH.1 (by decide) rfl dX2_examine_61 mlX2_104 okX2_lastWeekOffered (kX2_lastWeekOffered S I o b2 (I b6 0) hH (kdBoilerAt hH h1)) (Nat.le_of_ble_eq_true rfl) (Nat.le_of_ble_eq_true rfl) (Nat.le_of_ble_eq_true rfl) (Nat.le_of_ble_eq_true rfl) ?_
          refine J_istore dX2_examine_64 (Nat.le_of_ble_eq_true rfl) ?_
          refine J_aload_n dX2_examine_66 rfl rfl ?_
          refine J_aload dX2_examine_67 rfl rfl ?_
          refine J_getI dX2_examine_69 flX2_97 rfl (kdInspectorAt hH h5) ?_
          refine J_iload dX2_examine_72 rfl ?_
          refine J_iload dX2_examine_74 rfl ?_
          refine J_cV3 (mc := mX0_takePaper) (kdBoilerAt hH h1) (by decide) rfl dX2_examine_76 mlX2_107 okX0_takePaper (kX0_takePaper S I b2 (I b6 0) (fX2_pressureOffered I o b2 (I b6 0)) (fX2_lastWeekOffered I o b2 (I b6 0)) (kdBoilerAt hH h1)) (Nat.le_of_ble_eq_true rfl) (Nat.le_of_ble_eq_true rfl) (Nat.le_of_ble_eq_true rfl) (Nat.le_of_ble_eq_true rfl) ?_
          refine J_goto (tgt := 86) dX2_examine_79 (by decide) ?_
          refine J_aload dX2_examine_86 rfl rfl ?_
          refine J_iload dX2_examine_88 rfl ?_
          refine J_if_le (tgt := 97) dX2_examine_90 (by decide) (fun h10 => ?_) (fun h10 => ?_)
          · skip
            exact absurd h10 h8
          · skip
            refine J_iconst (1) dX2_examine_93 rfl ?_
            refine J_goto (tgt := 98) dX2_examine_94 (by decide) ?_
            refine J_cV1 (mc := mX3_noteInspection) (kdInspectorAt hH h5) (by decide) rfl dX2_examine_98 mlX2_114 okX3_noteInspection (kX3_noteInspection S (fX0_takePaper I b2 (I b6 0) (fX2_pressureOffered I o b2 (I b6 0)) (fX2_lastWeekOffered I o b2 (I b6 0))) b6 1 (kdInspectorAt hH h5)) (Nat.le_of_ble_eq_true rfl) (Nat.le_of_ble_eq_true rfl) (Nat.le_of_ble_eq_true rfl) (Nat.le_of_ble_eq_true rfl) ?_
            refine J_aload_n dX2_examine_101 rfl rfl ?_
            refine J_aload dX2_examine_102 rfl rfl ?_
            refine J_getI dX2_examine_104 flX2_97 rfl (kdInspectorAt hH h5) ?_
            refine J_aload_n dX2_examine_107 rfl rfl ?_
            refine J_iconst (2) dX2_examine_108 rfl ?_
            refine J_cV1r (mc := mX2_settingAt) hH.1 (by decide) rfl dX2_examine_109 mlX2_118 okX2_settingAt (kX2_settingAt S (fX3_noteInspection (fX0_takePaper I b2 (I b6 0) (fX2_pressureOffered I o b2 (I b6 0)) (fX2_lastWeekOffered I o b2 (I b6 0))) b6 1) o 2 hH) (Nat.le_of_ble_eq_true rfl) (Nat.le_of_ble_eq_true rfl) (Nat.le_of_ble_eq_true rfl) (Nat.le_of_ble_eq_true rfl) ?_
            refine J_cV2 (mc := mX2_ownerPays) hH.1 (by decide) rfl dX2_examine_112 mlX2_122 okX2_ownerPays (kX2_ownerPays S (fX3_noteInspection (fX0_takePaper I b2 (I b6 0) (fX2_pressureOffered I o b2 (I b6 0)) (fX2_lastWeekOffered I o b2 (I b6 0))) b6 1) o ((fX3_noteInspection (fX0_takePaper I b2 (I b6 0) (fX2_pressureOffered I o b2 (I b6 0)) (fX2_lastWeekOffered I o b2 (I b6 0))) b6 1) b6 0) (fX2_settingAt (fX3_noteInspection (fX0_takePaper I b2 (I b6 0) (fX2_pressureOffered I o b2 (I b6 0)) (fX2_lastWeekOffered I o b2 (I b6 0))) b6 1) o 2) hH) (Nat.le_of_ble_eq_true rfl) (Nat.le_of_ble_eq_true rfl) (Nat.le_of_ble_eq_true rfl) (Nat.le_of_ble_eq_true rfl) ?_
            refine J_iload dX2_examine_115 rfl ?_
            exact J_iret (ty := .int) hR dX2_examine_117 rfl rfl (Nat.le_of_ble_eq_true rfl) (Nat.le_of_ble_eq_true rfl) (jRes_f (by first | rfl | (simp only [fX2_examine, h1, h5, if_pos h7, if_neg h8]; done) | (simp only [fX2_examine, h1, h5, if_pos h7, if_neg h8]; rfl)))
      · skip
        refine J_ldc (-2000000002) dX2_examine_34 jw_311 ?_
        exact J_iret (ty := .int) hR dX2_examine_36 rfl rfl (Nat.le_of_ble_eq_true rfl) (Nat.le_of_ble_eq_true rfl) (jRes_f (by first | rfl | (simp only [fX2_examine, h1, h5, if_neg h7]; done) | (simp only [fX2_examine, h1, h5, if_neg h7]; rfl)))
def fX2_light (I : jI) (o : Nat) (x : Int32) : Int32 × jI :=
  match (fX2_boilerAt I o x) with
  | none =>
    ((-2000000001), I)
  | some b2 =>
    if (fX0_whyNotFiredIn I b2 (I o 6)) = 0 then
      (((((jset I b2 3 1) b2 10) - ((jset I b2 3 1) o 6)) + 1), (jset I b2 3 1))
    else
      ((-2000000002), I)
set_option maxRecDepth 100000 in
set_option maxHeartbeats 4000000 in
theorem kX2_light (S : jX) (I : jI) (o : Nat) (x : Int32) (hH : jHouse S o) : jM (2, 0, 0) mX2_light [.ref o, .int x] S I (jRes (some (.int (fX2_light I o x).1)) S (fX2_light I o x).2) := by
  refine jM.of (ls := [.ref o, .int x, .long 0]) (by decide) (Nat.le_of_ble_eq_true rfl) (by intro v hv; simp only [List.mem_cons, List.not_mem_nil, or_false] at hv; rcases hv with rfl | rfl <;> rfl) rfl (fun G hR => ?_)
  refine J_aload_n dX2_light_0 rfl rfl ?_
  refine J_iload_n dX2_light_1 rfl ?_
  refine J_cV1r (mc := mX2_boilerAt) hH.1 (by decide) rfl dX2_light_2 mlX2_52 okX2_boilerAt (kX2_boilerAt S I o x hH) (Nat.le_of_ble_eq_true rfl) (Nat.le_of_ble_eq_true rfl) (Nat.le_of_ble_eq_true rfl) (Nat.le_of_ble_eq_true rfl) ?_
  rcases h1 : (fX2_boilerAt I o x) with _ | b2
  · skip
    refine J_astore_n dX2_light_5 (Nat.le_of_ble_eq_true rfl) rfl ?_
    refine J_aload_n dX2_light_6 rfl rfl ?_
    refine J_ifnonnull_n dX2_light_7 ?_
    refine J_ldc (-2000000001) dX2_light_10 jw_262 ?_
    exact J_iret (ty := .int) hR dX2_light_12 rfl rfl (Nat.le_of_ble_eq_true rfl) (Nat.le_of_ble_eq_true rfl) (jRes_f (by first | rfl | (simp only [fX2_light, h1]; done) | (simp only [fX2_light, h1]; rfl)))
  · skip
    refine J_astore_n dX2_light_5 (Nat.le_of_ble_eq_true rfl) rfl ?_
    refine J_aload_n dX2_light_6 rfl rfl ?_
    refine J_ifnonnull_r (tgt := 13) dX2_light_7 (by decide) ?_
    refine J_aload_n dX2_light_13 rfl rfl ?_
    refine J_aload_n dX2_light_14 rfl rfl ?_
    refine J_getI dX2_light_15 flX2_39 rfl hH.1 ?_
    refine J_cV1r (mc := mX0_whyNotFiredIn) (kdBoilerAt hH h1) (by decide) rfl dX2_light_18 mlX2_125 okX0_whyNotFiredIn (kX0_whyNotFiredIn S I b2 (I o 6) (kdBoilerAt hH h1)) (Nat.le_of_ble_eq_true rfl) (Nat.le_of_ble_eq_true rfl) (Nat.le_of_ble_eq_true rfl) (Nat.le_of_ble_eq_true rfl) ?_
    refine J_if_eq (tgt := 27) dX2_light_21 (by decide) (fun h3 => ?_) (fun h3 => ?_)
    · skip
      refine J_aload_n dX2_light_27 rfl rfl ?_
      refine J_iconst (1) dX2_light_28 rfl ?_
      refine J_putI dX2_light_29 flX2_83 rfl rfl rfl rfl (kdBoilerAt hH h1) ?_
      refine J_aload_n dX2_light_32 rfl rfl ?_
      refine J_getI dX2_light_33 flX2_128 rfl (kdBoilerAt hH h1) ?_
      refine J_aload_n dX2_light_36 rfl rfl ?_
      refine J_getI dX2_light_37 flX2_39 rfl hH.1 ?_
      refine J_isub dX2_light_40 ?_
      refine J_iconst (1) dX2_light_41 rfl ?_
      refine J_iadd dX2_light_42 ?_
      exact J_iret (ty := .int) hR dX2_light_43 rfl rfl (Nat.le_of_ble_eq_true rfl) (Nat.le_of_ble_eq_true rfl) (jRes_f (by first | rfl | (simp only [fX2_light, h1, if_pos h3]; done) | (simp only [fX2_light, h1, if_pos h3]; rfl)))
    · skip
      refine J_ldc (-2000000002) dX2_light_24 jw_311 ?_
      exact J_iret (ty := .int) hR dX2_light_26 rfl rfl (Nat.le_of_ble_eq_true rfl) (Nat.le_of_ble_eq_true rfl) (jRes_f (by first | rfl | (simp only [fX2_light, h1, if_neg h3]; done) | (simp only [fX2_light, h1, if_neg h3]; rfl)))
def fX2_putOut (I : jI) (o : Nat) (x : Int32) : Int32 × jI :=
  match (fX2_boilerAt I o x) with
  | none =>
    ((-2000000001), I)
  | some b2 =>
    if (I b2 3) = 1 then
      (((fX0_becomeCold I b2) b2 2), (fX0_becomeCold I b2))
    else
      ((-2000000002), I)
set_option maxRecDepth 100000 in
set_option maxHeartbeats 4000000 in
theorem kX2_putOut (S : jX) (I : jI) (o : Nat) (x : Int32) (hH : jHouse S o) : jM (1, 0, 0) mX2_putOut [.ref o, .int x] S I (jRes (some (.int (fX2_putOut I o x).1)) S (fX2_putOut I o x).2) := by
  refine jM.of (ls := [.ref o, .int x, .long 0]) (by decide) (Nat.le_of_ble_eq_true rfl) (by intro v hv; simp only [List.mem_cons, List.not_mem_nil, or_false] at hv; rcases hv with rfl | rfl <;> rfl) rfl (fun G hR => ?_)
  refine J_aload_n dX2_putOut_0 rfl rfl ?_
  refine J_iload_n dX2_putOut_1 rfl ?_
  refine J_cV1r (mc := mX2_boilerAt) hH.1 (by decide) rfl dX2_putOut_2 mlX2_52 okX2_boilerAt (kX2_boilerAt S I o x hH) (Nat.le_of_ble_eq_true rfl) (Nat.le_of_ble_eq_true rfl) (Nat.le_of_ble_eq_true rfl) (Nat.le_of_ble_eq_true rfl) ?_
  rcases h1 : (fX2_boilerAt I o x) with _ | b2
  · skip
    refine J_astore_n dX2_putOut_5 (Nat.le_of_ble_eq_true rfl) rfl ?_
    refine J_aload_n dX2_putOut_6 rfl rfl ?_
    refine J_ifnonnull_n dX2_putOut_7 ?_
    refine J_ldc (-2000000001) dX2_putOut_10 jw_262 ?_
    exact J_iret (ty := .int) hR dX2_putOut_12 rfl rfl (Nat.le_of_ble_eq_true rfl) (Nat.le_of_ble_eq_true rfl) (jRes_f (by first | rfl | (simp only [fX2_putOut, h1]; done) | (simp only [fX2_putOut, h1]; rfl)))
  · skip
    refine J_astore_n dX2_putOut_5 (Nat.le_of_ble_eq_true rfl) rfl ?_
    refine J_aload_n dX2_putOut_6 rfl rfl ?_
    refine J_ifnonnull_r (tgt := 13) dX2_putOut_7 (by decide) ?_
    refine J_aload_n dX2_putOut_13 rfl rfl ?_
    refine J_getI dX2_putOut_14 flX2_83 rfl (kdBoilerAt hH h1) ?_
    refine J_iconst (1) dX2_putOut_17 rfl ?_
    refine J_icmp_eq (tgt := 24) dX2_putOut_18 (by decide) (fun h3 => ?_) (fun h3 => ?_)
    · skip
      refine J_aload_n dX2_putOut_24 rfl rfl ?_
      refine J_cV0 (mc := mX0_becomeCold) (kdBoilerAt hH h1) (by decide) rfl dX2_putOut_25 mlX2_131 okX0_becomeCold (kX0_becomeCold S I b2 (kdBoilerAt hH h1)) (Nat.le_of_ble_eq_true rfl) (Nat.le_of_ble_eq_true rfl) (Nat.le_of_ble_eq_true rfl) (Nat.le_of_ble_eq_true rfl) ?_
      refine J_aload_n dX2_putOut_28 rfl rfl ?_
      refine J_getI dX2_putOut_29 flX2_134 rfl (kdBoilerAt hH h1) ?_
      exact J_iret (ty := .int) hR dX2_putOut_32 rfl rfl (Nat.le_of_ble_eq_true rfl) (Nat.le_of_ble_eq_true rfl) (jRes_f (by first | rfl | (simp only [fX2_putOut, h1, if_pos h3]; done) | (simp only [fX2_putOut, h1, if_pos h3]; rfl)))
    · skip
      refine J_ldc (-2000000002) dX2_putOut_21 jw_311 ?_
      exact J_iret (ty := .int) hR dX2_putOut_23 rfl rfl (Nat.le_of_ble_eq_true rfl) (Nat.le_of_ble_eq_true rfl) (jRes_f (by first | rfl | (simp only [fX2_putOut, h1, if_neg h3]; done) | (simp only [fX2_putOut, h1, if_neg h3]; rfl)))
def fX2_planShutdown (I : jI) (o : Nat) (x : Int32) (y : Int32) (z : Int32) : Int32 × jI :=
  match (fX2_boilerAt I o x) with
  | none =>
    ((-2000000001), I)
  | some b2 =>
    if y < (I o 6) then
      ((-2000000001), I)
    else
      if y ≤ 9999 then
        if z < 1 then
          ((-2000000001), I)
        else
          if z ≤ 20 then
            if y = (I o 6) then
              if (I b2 3) = 1 then
                ((-2000000002), I)
              else
                (((jset (jset (jset I b2 11 1) b2 12 y) b2 13 ((y + z) - 1)) b2 13), (jset (jset (jset I b2 11 1) b2 12 y) b2 13 ((y + z) - 1)))
            else
              (((jset (jset (jset I b2 11 1) b2 12 y) b2 13 ((y + z) - 1)) b2 13), (jset (jset (jset I b2 11 1) b2 12 y) b2 13 ((y + z) - 1)))
          else
            ((-2000000001), I)
      else
        ((-2000000001), I)
set_option maxRecDepth 100000 in
set_option maxHeartbeats 4000000 in
theorem kX2_planShutdown (S : jX) (I : jI) (o : Nat) (x : Int32) (y : Int32) (z : Int32) (hH : jHouse S o) : jM (1, 0, 0) mX2_planShutdown [.ref o, .int x, .int y, .int z] S I (jRes (some (.int (fX2_planShutdown I o x y z).1)) S (fX2_planShutdown I o x y z).2) := by
  refine jM.of (ls := [.ref o, .int x, .int y, .int z, .long 0]) (by decide) (Nat.le_of_ble_eq_true rfl) (by intro v hv; simp only [List.mem_cons, List.not_mem_nil, or_false] at hv; rcases hv with rfl | rfl | rfl | rfl <;> rfl) rfl (fun G hR => ?_)
  refine J_aload_n dX2_planShutdown_0 rfl rfl ?_
  refine J_iload_n dX2_planShutdown_1 rfl ?_
  refine J_cV1r (mc := mX2_boilerAt) hH.1 (by decide) rfl dX2_planShutdown_2 mlX2_52 okX2_boilerAt (kX2_boilerAt S I o x hH) (Nat.le_of_ble_eq_true rfl) (Nat.le_of_ble_eq_true rfl) (Nat.le_of_ble_eq_true rfl) (Nat.le_of_ble_eq_true rfl) ?_
  rcases h1 : (fX2_boilerAt I o x) with _ | b2
  · skip
    refine J_astore dX2_planShutdown_5 (Nat.le_of_ble_eq_true rfl) rfl ?_
    refine J_aload dX2_planShutdown_7 rfl rfl ?_
    refine J_ifnull_n (tgt := 27) dX2_planShutdown_9 (by decide) ?_
    refine J_ldc (-2000000001) dX2_planShutdown_27 jw_262 ?_
    exact J_iret (ty := .int) hR dX2_planShutdown_29 rfl rfl (Nat.le_of_ble_eq_true rfl) (Nat.le_of_ble_eq_true rfl) (jRes_f (by first | rfl | (simp only [fX2_planShutdown, h1]; done) | (simp only [fX2_planShutdown, h1]; rfl)))
  · skip
    refine J_astore dX2_planShutdown_5 (Nat.le_of_ble_eq_true rfl) rfl ?_
    refine J_aload dX2_planShutdown_7 rfl rfl ?_
    refine J_ifnull_r dX2_planShutdown_9 ?_
    refine J_iload_n dX2_planShutdown_12 rfl ?_
    refine J_aload_n dX2_planShutdown_13 rfl rfl ?_
    refine J_getI dX2_planShutdown_14 flX2_39 rfl hH.1 ?_
    refine J_icmp_lt (tgt := 27) dX2_planShutdown_17 (by decide) (fun h3 => ?_) (fun h3 => ?_)
    · skip
      refine J_ldc (-2000000001) dX2_planShutdown_27 jw_262 ?_
      exact J_iret (ty := .int) hR dX2_planShutdown_29 rfl rfl (Nat.le_of_ble_eq_true rfl) (Nat.le_of_ble_eq_true rfl) (jRes_f (by first | rfl | (simp only [fX2_planShutdown, h1, if_pos h3]; done) | (simp only [fX2_planShutdown, h1, if_pos h3]; rfl)))
    · skip
      refine J_iload_n dX2_planShutdown_20 rfl ?_
      refine J_sipush (9999) dX2_planShutdown_21 rfl ?_
      refine J_icmp_le (tgt := 30) dX2_planShutdown_24 (by decide) (fun h4 => ?_) (fun h4 => ?_)
      · skip
        refine J_iload_n dX2_planShutdown_30 rfl ?_
        refine J_iconst (1) dX2_planShutdown_31 rfl ?_
        refine J_icmp_lt (tgt := 41) dX2_planShutdown_32 (by decide) (fun h5 => ?_) (fun h5 => ?_)
        · skip
          refine J_ldc (-2000000001) dX2_planShutdown_41 jw_262 ?_
          exact J_iret (ty := .int) hR dX2_planShutdown_43 rfl rfl (Nat.le_of_ble_eq_true rfl) (Nat.le_of_ble_eq_true rfl) (jRes_f (by first | rfl | (simp only [fX2_planShutdown, h1, if_neg h3, if_pos h4, if_pos h5]; done) | (simp only [fX2_planShutdown, h1, if_neg h3, if_pos h4, if_pos h5]; rfl)))
        · skip
          refine J_iload_n dX2_planShutdown_35 rfl ?_
          refine J_bipush (20) dX2_planShutdown_36 rfl ?_
          refine J_icmp_le (tgt := 44) dX2_planShutdown_38 (by decide) (fun h6 => ?_) (fun h6 => ?_)
          · skip
            refine J_iload_n dX2_planShutdown_44 rfl ?_
            refine J_aload_n dX2_planShutdown_45 rfl rfl ?_
            refine J_getI dX2_planShutdown_46 flX2_39 rfl hH.1 ?_
            refine J_icmp_ne (tgt := 64) dX2_planShutdown_49 (by decide) (fun h7 => ?_) (fun h7 => ?_)
            · skip
              refine J_aload dX2_planShutdown_64 rfl rfl ?_
              refine J_iconst (1) dX2_planShutdown_66 rfl ?_
              refine J_putI dX2_planShutdown_67 flX2_137 rfl rfl rfl rfl (kdBoilerAt hH h1) ?_
              refine J_aload dX2_planShutdown_70 rfl rfl ?_
              refine J_iload_n dX2_planShutdown_72 rfl ?_
              refine J_putI dX2_planShutdown_73 flX2_141 rfl rfl rfl rfl (kdBoilerAt hH h1) ?_
              refine J_aload dX2_planShutdown_76 rfl rfl ?_
              refine J_iload_n dX2_planShutdown_78 rfl ?_
              refine J_iload_n dX2_planShutdown_79 rfl ?_
              refine J_iadd dX2_planShutdown_80 ?_
              refine J_iconst (1) dX2_planShutdown_81 rfl ?_
              refine J_isub dX2_planShutdown_82 ?_
              refine J_putI dX2_planShutdown_83 flX2_144 rfl rfl rfl rfl (kdBoilerAt hH h1) ?_
              refine J_aload dX2_planShutdown_86 rfl rfl ?_
              refine J_getI dX2_planShutdown_88 flX2_144 rfl (kdBoilerAt hH h1) ?_
              exact J_iret (ty := .int) hR dX2_planShutdown_91 rfl rfl (Nat.le_of_ble_eq_true rfl) (Nat.le_of_ble_eq_true rfl) (jRes_f (by first | rfl | (simp only [fX2_planShutdown, h1, if_neg h3, if_pos h4, if_neg h5, if_pos h6, if_neg h7]; done) | (simp only [fX2_planShutdown, h1, if_neg h3, if_pos h4, if_neg h5, if_pos h6, if_neg h7]; rfl)))
            · skip
              refine J_aload dX2_planShutdown_52 rfl rfl ?_
              refine J_getI dX2_planShutdown_54 flX2_83 rfl (kdBoilerAt hH h1) ?_
              refine J_iconst (1) dX2_planShutdown_57 rfl ?_
              refine J_icmp_ne (tgt := 64) dX2_planShutdown_58 (by decide) (fun h8 => ?_) (fun h8 => ?_)
              · skip
                refine J_aload dX2_planShutdown_64 rfl rfl ?_
                refine J_iconst (1) dX2_planShutdown_66 rfl ?_
                refine J_putI dX2_planShutdown_67 flX2_137 rfl rfl rfl rfl (kdBoilerAt hH h1) ?_
                refine J_aload dX2_planShutdown_70 rfl rfl ?_
                refine J_iload_n dX2_planShutdown_72 rfl ?_
                refine J_putI dX2_planShutdown_73 flX2_141 rfl rfl rfl rfl (kdBoilerAt hH h1) ?_
                refine J_aload dX2_planShutdown_76 rfl rfl ?_
                refine J_iload_n dX2_planShutdown_78 rfl ?_
                refine J_iload_n dX2_planShutdown_79 rfl ?_
                refine J_iadd dX2_planShutdown_80 ?_
                refine J_iconst (1) dX2_planShutdown_81 rfl ?_
                refine J_isub dX2_planShutdown_82 ?_
                refine J_putI dX2_planShutdown_83 flX2_144 rfl rfl rfl rfl (kdBoilerAt hH h1) ?_
                refine J_aload dX2_planShutdown_86 rfl rfl ?_
                refine J_getI dX2_planShutdown_88 flX2_144 rfl (kdBoilerAt hH h1) ?_
                exact J_iret (ty := .int) hR dX2_planShutdown_91 rfl rfl (Nat.le_of_ble_eq_true rfl) (Nat.le_of_ble_eq_true rfl) (jRes_f (by first | rfl | (simp only [fX2_planShutdown, h1, if_neg h3, if_pos h4, if_neg h5, if_pos h6, if_pos h7, if_neg h8]; done) | (simp only [fX2_planShutdown, h1, if_neg h3, if_pos h4, if_neg h5, if_pos h6, if_pos h7, if_neg h8]; rfl)))
              · skip
                refine J_ldc (-2000000002) dX2_planShutdown_61 jw_311 ?_
                exact J_iret (ty := .int) hR dX2_planShutdown_63 rfl rfl (Nat.le_of_ble_eq_true rfl) (Nat.le_of_ble_eq_true rfl) (jRes_f (by first | rfl | (simp only [fX2_planShutdown, h1, if_neg h3, if_pos h4, if_neg h5, if_pos h6, if_pos h7, if_pos h8]; done) | (simp only [fX2_planShutdown, h1, if_neg h3, if_pos h4, if_neg h5, if_pos h6, if_pos h7, if_pos h8]; rfl)))
          · skip
            refine J_ldc (-2000000001) dX2_planShutdown_41 jw_262 ?_
            exact J_iret (ty := .int) hR dX2_planShutdown_43 rfl rfl (Nat.le_of_ble_eq_true rfl) (Nat.le_of_ble_eq_true rfl) (jRes_f (by first | rfl | (simp only [fX2_planShutdown, h1, if_neg h3, if_pos h4, if_neg h5, if_neg h6]; done) | (simp only [fX2_planShutdown, h1, if_neg h3, if_pos h4, if_neg h5, if_neg h6]; rfl)))
      · skip
        refine J_ldc (-2000000001) dX2_planShutdown_27 jw_262 ?_
        exact J_iret (ty := .int) hR dX2_planShutdown_29 rfl rfl (Nat.le_of_ble_eq_true rfl) (Nat.le_of_ble_eq_true rfl) (jRes_f (by first | rfl | (simp only [fX2_planShutdown, h1, if_neg h3, if_neg h4]; done) | (simp only [fX2_planShutdown, h1, if_neg h3, if_neg h4]; rfl)))
def fX2_sendToRepair (I : jI) (o : Nat) (x : Int32) : Int32 × jI :=
  match (fX2_boilerAt I o x) with
  | none =>
    ((-2000000001), I)
  | some b2 =>
    if (I b2 3) = 0 then
      ((((I b2 2) / 10) + 1), (fX2_ownerPays (jset (jset (jset I b2 3 2) b2 5 (((jset I b2 3 2) o 6) + (((I b2 2) / 10) + 1))) o 8 (((jset (jset I b2 3 2) b2 5 (((jset I b2 3 2) o 6) + (((I b2 2) / 10) + 1))) o 8) + (((I b2 2) / 10) + 1))) o 2 ((((I b2 2) / 10) + 1) * (fX2_settingAt (jset (jset (jset I b2 3 2) b2 5 (((jset I b2 3 2) o 6) + (((I b2 2) / 10) + 1))) o 8 (((jset (jset I b2 3 2) b2 5 (((jset I b2 3 2) o 6) + (((I b2 2) / 10) + 1))) o 8) + (((I b2 2) / 10) + 1))) o 3))))
    else
      ((-2000000002), I)
set_option maxRecDepth 100000 in
set_option maxHeartbeats 4000000 in
theorem kX2_sendToRepair (S : jX) (I : jI) (o : Nat) (x : Int32) (hH : jHouse S o) : jM (1, 0, 0) mX2_sendToRepair [.ref o, .int x] S I (jRes (some (.int (fX2_sendToRepair I o x).1)) S (fX2_sendToRepair I o x).2) := by
  refine jM.of (ls := [.ref o, .int x, .long 0, .long 0]) (by decide) (Nat.le_of_ble_eq_true rfl) (by intro v hv; simp only [List.mem_cons, List.not_mem_nil, or_false] at hv; rcases hv with rfl | rfl <;> rfl) rfl (fun G hR => ?_)
  refine J_aload_n dX2_sendToRepair_0 rfl rfl ?_
  refine J_iload_n dX2_sendToRepair_1 rfl ?_
  refine J_cV1r (mc := mX2_boilerAt) hH.1 (by decide) rfl dX2_sendToRepair_2 mlX2_52 okX2_boilerAt (kX2_boilerAt S I o x hH) (Nat.le_of_ble_eq_true rfl) (Nat.le_of_ble_eq_true rfl) (Nat.le_of_ble_eq_true rfl) (Nat.le_of_ble_eq_true rfl) ?_
  rcases h1 : (fX2_boilerAt I o x) with _ | b2
  · skip
    refine J_astore_n dX2_sendToRepair_5 (Nat.le_of_ble_eq_true rfl) rfl ?_
    refine J_aload_n dX2_sendToRepair_6 rfl rfl ?_
    refine J_ifnonnull_n dX2_sendToRepair_7 ?_
    refine J_ldc (-2000000001) dX2_sendToRepair_10 jw_262 ?_
    exact J_iret (ty := .int) hR dX2_sendToRepair_12 rfl rfl (Nat.le_of_ble_eq_true rfl) (Nat.le_of_ble_eq_true rfl) (jRes_f (by first | rfl | (simp only [fX2_sendToRepair, h1]; done) | (simp only [fX2_sendToRepair, h1]; rfl)))
  · skip
    refine J_astore_n dX2_sendToRepair_5 (Nat.le_of_ble_eq_true rfl) rfl ?_
    refine J_aload_n dX2_sendToRepair_6 rfl rfl ?_
    refine J_ifnonnull_r (tgt := 13) dX2_sendToRepair_7 (by decide) ?_
    refine J_aload_n dX2_sendToRepair_13 rfl rfl ?_
    refine J_getI dX2_sendToRepair_14 flX2_83 rfl (kdBoilerAt hH h1) ?_
    refine J_if_eq (tgt := 23) dX2_sendToRepair_17 (by decide) (fun h3 => ?_) (fun h3 => ?_)
    · skip
      refine J_aload_n dX2_sendToRepair_23 rfl rfl ?_
      refine J_getI dX2_sendToRepair_24 flX2_134 rfl (kdBoilerAt hH h1) ?_
      refine J_bipush (10) dX2_sendToRepair_27 rfl ?_
      refine J_idiv dX2_sendToRepair_29 (by decide) ?_
      refine J_iconst (1) dX2_sendToRepair_30 rfl ?_
      refine J_iadd dX2_sendToRepair_31 ?_
      refine J_istore_n dX2_sendToRepair_32 (Nat.le_of_ble_eq_true rfl) ?_
      refine J_aload_n dX2_sendToRepair_33 rfl rfl ?_
      refine J_iconst (2) dX2_sendToRepair_34 rfl ?_
      refine J_putI dX2_sendToRepair_35 flX2_83 rfl rfl rfl rfl (kdBoilerAt hH h1) ?_
      refine J_aload_n dX2_sendToRepair_38 rfl rfl ?_
      refine J_aload_n dX2_sendToRepair_39 rfl rfl ?_
      refine J_getI dX2_sendToRepair_40 flX2_39 rfl hH.1 ?_
      refine J_iload_n dX2_sendToRepair_43 rfl ?_
      refine J_iadd dX2_sendToRepair_44 ?_
      refine J_putI dX2_sendToRepair_45 flX2_147 rfl rfl rfl rfl (kdBoilerAt hH h1) ?_
      refine J_aload_n dX2_sendToRepair_48 rfl rfl ?_
      refine J_dup dX2_sendToRepair_49 rfl ?_
      refine J_getI dX2_sendToRepair_50 flX2_45 rfl hH.1 ?_
      refine J_iload_n dX2_sendToRepair_53 rfl ?_
      refine J_iadd dX2_sendToRepair_54 ?_
      refine J_putI dX2_sendToRepair_55 flX2_45 rfl rfl rfl rfl hH.1 ?_
      refine J_aload_n dX2_sendToRepair_58 rfl rfl ?_
      refine J_iconst (2) dX2_sendToRepair_59 rfl ?_
      refine J_iload_n dX2_sendToRepair_60 rfl ?_
      refine J_aload_n dX2_sendToRepair_61 rfl rfl ?_
      refine J_iconst (3) dX2_sendToRepair_62 rfl ?_
      refine J_cV1r (mc := mX2_settingAt) hH.1 (by decide) rfl dX2_sendToRepair_63 mlX2_118 okX2_settingAt (kX2_settingAt S (jset (jset (jset I b2 3 2) b2 5 (((jset I b2 3 2) o 6) + (((I b2 2) / 10) + 1))) o 8 (((jset (jset I b2 3 2) b2 5 (((jset I b2 3 2) o 6) + (((I b2 2) / 10) + 1))) o 8) + (((I b2 2) / 10) + 1))) o 3 hH) (Nat.le_of_ble_eq_true rfl) (Nat.le_of_ble_eq_true rfl) (Nat.le_of_ble_eq_true rfl) (Nat.le_of_ble_eq_true rfl) ?_
      refine J_imul dX2_sendToRepair_66 ?_
      refine J_cV2 (mc := mX2_ownerPays) hH.1 (by decide) rfl dX2_sendToRepair_67 mlX2_122 okX2_ownerPays (kX2_ownerPays S (jset (jset (jset I b2 3 2) b2 5 (((jset I b2 3 2) o 6) + (((I b2 2) / 10) + 1))) o 8 (((jset (jset I b2 3 2) b2 5 (((jset I b2 3 2) o 6) + (((I b2 2) / 10) + 1))) o 8) + (((I b2 2) / 10) + 1))) o 2 ((((I b2 2) / 10) + 1) * (fX2_settingAt (jset (jset (jset I b2 3 2) b2 5 (((jset I b2 3 2) o 6) + (((I b2 2) / 10) + 1))) o 8 (((jset (jset I b2 3 2) b2 5 (((jset I b2 3 2) o 6) + (((I b2 2) / 10) + 1))) o 8) + (((I b2 2) / 10) + 1))) o 3)) hH) (Nat.le_of_ble_eq_true rfl) (Nat.le_of_ble_eq_true rfl) (Nat.le_of_ble_eq_true rfl) (Nat.le_of_ble_eq_true rfl) ?_
      refine J_iload_n dX2_sendToRepair_70 rfl ?_
      exact J_iret (ty := .int) hR dX2_sendToRepair_71 rfl rfl (Nat.le_of_ble_eq_true rfl) (Nat.le_of_ble_eq_true rfl) (jRes_f (by first | rfl | (simp only [fX2_sendToRepair, h1, if_pos h3]; done) | (simp only [fX2_sendToRepair, h1, if_pos h3]; rfl)))
    · skip
      refine J_ldc (-2000000002) dX2_sendToRepair_20 jw_311 ?_
      exact J_iret (ty := .int) hR dX2_sendToRepair_22 rfl rfl (Nat.le_of_ble_eq_true rfl) (Nat.le_of_ble_eq_true rfl) (jRes_f (by first | rfl | (simp only [fX2_sendToRepair, h1, if_neg h3]; done) | (simp only [fX2_sendToRepair, h1, if_neg h3]; rfl)))
def fX2_factOfBoiler (I : jI) (o : Nat) (x : Int32) (y : Int32) : Int32 :=
  match (fX2_boilerAt I o x) with
  | none =>
    (-2000000001)
  | some b2 =>
    (fX0_fact I b2 y (I o 6))
set_option maxRecDepth 100000 in
set_option maxHeartbeats 4000000 in
theorem kX2_factOfBoiler (S : jX) (I : jI) (o : Nat) (x : Int32) (y : Int32) (hH : jHouse S o) : jM (2, 0, 0) mX2_factOfBoiler [.ref o, .int x, .int y] S I (jRes (some (.int (fX2_factOfBoiler I o x y))) S I) := by
  refine jM.of (ls := [.ref o, .int x, .int y, .long 0]) (by decide) (Nat.le_of_ble_eq_true rfl) (by intro v hv; simp only [List.mem_cons, List.not_mem_nil, or_false] at hv; rcases hv with rfl | rfl | rfl <;> rfl) rfl (fun G hR => ?_)
  refine J_aload_n dX2_factOfBoiler_0 rfl rfl ?_
  refine J_iload_n dX2_factOfBoiler_1 rfl ?_
  refine J_cV1r (mc := mX2_boilerAt) hH.1 (by decide) rfl dX2_factOfBoiler_2 mlX2_52 okX2_boilerAt (kX2_boilerAt S I o x hH) (Nat.le_of_ble_eq_true rfl) (Nat.le_of_ble_eq_true rfl) (Nat.le_of_ble_eq_true rfl) (Nat.le_of_ble_eq_true rfl) ?_
  rcases h1 : (fX2_boilerAt I o x) with _ | b2
  · skip
    refine J_astore_n dX2_factOfBoiler_5 (Nat.le_of_ble_eq_true rfl) rfl ?_
    refine J_aload_n dX2_factOfBoiler_6 rfl rfl ?_
    refine J_ifnonnull_n dX2_factOfBoiler_7 ?_
    refine J_ldc (-2000000001) dX2_factOfBoiler_10 jw_262 ?_
    refine J_goto (tgt := 24) dX2_factOfBoiler_12 (by decide) ?_
    exact J_iret (ty := .int) hR dX2_factOfBoiler_24 rfl rfl (Nat.le_of_ble_eq_true rfl) (Nat.le_of_ble_eq_true rfl) (jRes_i (by first | rfl | (simp only [fX2_factOfBoiler, h1]; done) | (simp only [fX2_factOfBoiler, h1]; rfl)) rfl)
  · skip
    refine J_astore_n dX2_factOfBoiler_5 (Nat.le_of_ble_eq_true rfl) rfl ?_
    refine J_aload_n dX2_factOfBoiler_6 rfl rfl ?_
    refine J_ifnonnull_r (tgt := 15) dX2_factOfBoiler_7 (by decide) ?_
    refine J_aload_n dX2_factOfBoiler_15 rfl rfl ?_
    refine J_iload_n dX2_factOfBoiler_16 rfl ?_
    refine J_aload_n dX2_factOfBoiler_17 rfl rfl ?_
    refine J_getI dX2_factOfBoiler_18 flX2_39 rfl hH.1 ?_
    refine J_cV2r (mc := mX0_fact) (kdBoilerAt hH h1) (by decide) rfl dX2_factOfBoiler_21 mlX2_191 okX0_fact (kX0_fact S I b2 y (I o 6) (kdBoilerAt hH h1)) (Nat.le_of_ble_eq_true rfl) (Nat.le_of_ble_eq_true rfl) (Nat.le_of_ble_eq_true rfl) (Nat.le_of_ble_eq_true rfl) ?_
    exact J_iret (ty := .int) hR dX2_factOfBoiler_24 rfl rfl (Nat.le_of_ble_eq_true rfl) (Nat.le_of_ble_eq_true rfl) (jRes_i (by first | rfl | (simp only [fX2_factOfBoiler, h1]; done) | (simp only [fX2_factOfBoiler, h1]; rfl)) rfl)
def fX2_factOfPaper (I : jI) (o : Nat) (x : Int32) (y : Int32) : Int32 :=
  match (fX2_boilerAt I o x) with
  | none =>
    (-2000000001)
  | some b2 =>
    (fX0_factOfPaper I b2 y)
set_option maxRecDepth 100000 in
set_option maxHeartbeats 4000000 in
theorem kX2_factOfPaper (S : jX) (I : jI) (o : Nat) (x : Int32) (y : Int32) (hH : jHouse S o) : jM (1, 0, 0) mX2_factOfPaper [.ref o, .int x, .int y] S I (jRes (some (.int (fX2_factOfPaper I o x y))) S I) := by
  refine jM.of (ls := [.ref o, .int x, .int y, .long 0]) (by decide) (Nat.le_of_ble_eq_true rfl) (by intro v hv; simp only [List.mem_cons, List.not_mem_nil, or_false] at hv; rcases hv with rfl | rfl | rfl <;> rfl) rfl (fun G hR => ?_)
  refine J_aload_n dX2_factOfPaper_0 rfl rfl ?_
  refine J_iload_n dX2_factOfPaper_1 rfl ?_
  refine J_cV1r (mc := mX2_boilerAt) hH.1 (by decide) rfl dX2_factOfPaper_2 mlX2_52 okX2_boilerAt (kX2_boilerAt S I o x hH) (Nat.le_of_ble_eq_true rfl) (Nat.le_of_ble_eq_true rfl) (Nat.le_of_ble_eq_true rfl) (Nat.le_of_ble_eq_true rfl) ?_
  rcases h1 : (fX2_boilerAt I o x) with _ | b2
  · skip
    refine J_astore_n dX2_factOfPaper_5 (Nat.le_of_ble_eq_true rfl) rfl ?_
    refine J_aload_n dX2_factOfPaper_6 rfl rfl ?_
    refine J_ifnonnull_n dX2_factOfPaper_7 ?_
    refine J_ldc (-2000000001) dX2_factOfPaper_10 jw_262 ?_
    refine J_goto (tgt := 20) dX2_factOfPaper_12 (by decide) ?_
    exact J_iret (ty := .int) hR dX2_factOfPaper_20 rfl rfl (Nat.le_of_ble_eq_true rfl) (Nat.le_of_ble_eq_true rfl) (jRes_i (by first | rfl | (simp only [fX2_factOfPaper, h1]; done) | (simp only [fX2_factOfPaper, h1]; rfl)) rfl)
  · skip
    refine J_astore_n dX2_factOfPaper_5 (Nat.le_of_ble_eq_true rfl) rfl ?_
    refine J_aload_n dX2_factOfPaper_6 rfl rfl ?_
    refine J_ifnonnull_r (tgt := 15) dX2_factOfPaper_7 (by decide) ?_
    refine J_aload_n dX2_factOfPaper_15 rfl rfl ?_
    refine J_iload_n dX2_factOfPaper_16 rfl ?_
    refine J_cV1r (mc := mX0_factOfPaper) (kdBoilerAt hH h1) (by decide) rfl dX2_factOfPaper_17 mlX2_194 okX0_factOfPaper (kX0_factOfPaper S I b2 y (kdBoilerAt hH h1)) (Nat.le_of_ble_eq_true rfl) (Nat.le_of_ble_eq_true rfl) (Nat.le_of_ble_eq_true rfl) (Nat.le_of_ble_eq_true rfl) ?_
    exact J_iret (ty := .int) hR dX2_factOfPaper_20 rfl rfl (Nat.le_of_ble_eq_true rfl) (Nat.le_of_ble_eq_true rfl) (jRes_i (by first | rfl | (simp only [fX2_factOfPaper, h1]; done) | (simp only [fX2_factOfPaper, h1]; rfl)) rfl)
def fX2_factOfInspector (I : jI) (o : Nat) (x : Int32) (y : Int32) : Int32 :=
  match (fX2_inspectorAt I o x) with
  | none =>
    (-2000000001)
  | some b2 =>
    (fX3_fact I b2 y)
set_option maxRecDepth 100000 in
set_option maxHeartbeats 4000000 in
theorem kX2_factOfInspector (S : jX) (I : jI) (o : Nat) (x : Int32) (y : Int32) (hH : jHouse S o) : jM (2, 0, 0) mX2_factOfInspector [.ref o, .int x, .int y] S I (jRes (some (.int (fX2_factOfInspector I o x y))) S I) := by
  refine jM.of (ls := [.ref o, .int x, .int y, .long 0]) (by decide) (Nat.le_of_ble_eq_true rfl) (by intro v hv; simp only [List.mem_cons, List.not_mem_nil, or_false] at hv; rcases hv with rfl | rfl | rfl <;> rfl) rfl (fun G hR => ?_)
  refine J_aload_n dX2_factOfInspector_0 rfl rfl ?_
  refine J_iload_n dX2_factOfInspector_1 rfl ?_
  refine J_cV1r (mc := mX2_inspectorAt) hH.1 (by decide) rfl dX2_factOfInspector_2 mlX2_60 okX2_inspectorAt (kX2_inspectorAt S I o x hH) (Nat.le_of_ble_eq_true rfl) (Nat.le_of_ble_eq_true rfl) (Nat.le_of_ble_eq_true rfl) (Nat.le_of_ble_eq_true rfl) ?_
  rcases h1 : (fX2_inspectorAt I o x) with _ | b2
  · skip
    refine J_astore_n dX2_factOfInspector_5 (Nat.le_of_ble_eq_true rfl) rfl ?_
    refine J_aload_n dX2_factOfInspector_6 rfl rfl ?_
    refine J_ifnonnull_n dX2_factOfInspector_7 ?_
    refine J_ldc (-2000000001) dX2_factOfInspector_10 jw_262 ?_
    refine J_goto (tgt := 20) dX2_factOfInspector_12 (by decide) ?_
    exact J_iret (ty := .int) hR dX2_factOfInspector_20 rfl rfl (Nat.le_of_ble_eq_true rfl) (Nat.le_of_ble_eq_true rfl) (jRes_i (by first | rfl | (simp only [fX2_factOfInspector, h1]; done) | (simp only [fX2_factOfInspector, h1]; rfl)) rfl)
  · skip
    refine J_astore_n dX2_factOfInspector_5 (Nat.le_of_ble_eq_true rfl) rfl ?_
    refine J_aload_n dX2_factOfInspector_6 rfl rfl ?_
    refine J_ifnonnull_r (tgt := 15) dX2_factOfInspector_7 (by decide) ?_
    refine J_aload_n dX2_factOfInspector_15 rfl rfl ?_
    refine J_iload_n dX2_factOfInspector_16 rfl ?_
    refine J_cV1r (mc := mX3_fact) (kdInspectorAt hH h1) (by decide) rfl dX2_factOfInspector_17 mlX2_197 okX3_fact (kX3_fact S I b2 y (kdInspectorAt hH h1)) (Nat.le_of_ble_eq_true rfl) (Nat.le_of_ble_eq_true rfl) (Nat.le_of_ble_eq_true rfl) (Nat.le_of_ble_eq_true rfl) ?_
    exact J_iret (ty := .int) hR dX2_factOfInspector_20 rfl rfl (Nat.le_of_ble_eq_true rfl) (Nat.le_of_ble_eq_true rfl) (jRes_i (by first | rfl | (simp only [fX2_factOfInspector, h1]; done) | (simp only [fX2_factOfInspector, h1]; rfl)) rfl)
def fX2_whyNotFired (I : jI) (o : Nat) (x : Int32) : Int32 :=
  match (fX2_boilerAt I o x) with
  | none =>
    (-2000000001)
  | some b2 =>
    (fX0_whyNotFiredIn I b2 (I o 6))
set_option maxRecDepth 100000 in
set_option maxHeartbeats 4000000 in
theorem kX2_whyNotFired (S : jX) (I : jI) (o : Nat) (x : Int32) (hH : jHouse S o) : jM (2, 0, 0) mX2_whyNotFired [.ref o, .int x] S I (jRes (some (.int (fX2_whyNotFired I o x))) S I) := by
  refine jM.of (ls := [.ref o, .int x, .long 0]) (by decide) (Nat.le_of_ble_eq_true rfl) (by intro v hv; simp only [List.mem_cons, List.not_mem_nil, or_false] at hv; rcases hv with rfl | rfl <;> rfl) rfl (fun G hR => ?_)
  refine J_aload_n dX2_whyNotFired_0 rfl rfl ?_
  refine J_iload_n dX2_whyNotFired_1 rfl ?_
  refine J_cV1r (mc := mX2_boilerAt) hH.1 (by decide) rfl dX2_whyNotFired_2 mlX2_52 okX2_boilerAt (kX2_boilerAt S I o x hH) (Nat.le_of_ble_eq_true rfl) (Nat.le_of_ble_eq_true rfl) (Nat.le_of_ble_eq_true rfl) (Nat.le_of_ble_eq_true rfl) ?_
  rcases h1 : (fX2_boilerAt I o x) with _ | b2
  · skip
    refine J_astore_n dX2_whyNotFired_5 (Nat.le_of_ble_eq_true rfl) rfl ?_
    refine J_aload_n dX2_whyNotFired_6 rfl rfl ?_
    refine J_ifnonnull_n dX2_whyNotFired_7 ?_
    refine J_ldc (-2000000001) dX2_whyNotFired_10 jw_262 ?_
    refine J_goto (tgt := 23) dX2_whyNotFired_12 (by decide) ?_
    exact J_iret (ty := .int) hR dX2_whyNotFired_23 rfl rfl (Nat.le_of_ble_eq_true rfl) (Nat.le_of_ble_eq_true rfl) (jRes_i (by first | rfl | (simp only [fX2_whyNotFired, h1]; done) | (simp only [fX2_whyNotFired, h1]; rfl)) rfl)
  · skip
    refine J_astore_n dX2_whyNotFired_5 (Nat.le_of_ble_eq_true rfl) rfl ?_
    refine J_aload_n dX2_whyNotFired_6 rfl rfl ?_
    refine J_ifnonnull_r (tgt := 15) dX2_whyNotFired_7 (by decide) ?_
    refine J_aload_n dX2_whyNotFired_15 rfl rfl ?_
    refine J_aload_n dX2_whyNotFired_16 rfl rfl ?_
    refine J_getI dX2_whyNotFired_17 flX2_39 rfl hH.1 ?_
    refine J_cV1r (mc := mX0_whyNotFiredIn) (kdBoilerAt hH h1) (by decide) rfl dX2_whyNotFired_20 mlX2_125 okX0_whyNotFiredIn (kX0_whyNotFiredIn S I b2 (I o 6) (kdBoilerAt hH h1)) (Nat.le_of_ble_eq_true rfl) (Nat.le_of_ble_eq_true rfl) (Nat.le_of_ble_eq_true rfl) (Nat.le_of_ble_eq_true rfl) ?_
    exact J_iret (ty := .int) hR dX2_whyNotFired_23 rfl rfl (Nat.le_of_ble_eq_true rfl) (Nat.le_of_ble_eq_true rfl) (jRes_i (by first | rfl | (simp only [fX2_whyNotFired, h1]; done) | (simp only [fX2_whyNotFired, h1]; rfl)) rfl)
def fX2_whyNotInspected (I : jI) (o : Nat) (x : Int32) (y : Int32) : Int32 :=
  match (fX2_boilerAt I o x) with
  | none =>
    match (fX2_inspectorAt I o y) with
    | none =>
      (-2000000001)
    | some b4 =>
      (-2000000001)
  | some b2 =>
    match (fX2_inspectorAt I o y) with
    | none =>
      (-2000000001)
    | some b6 =>
      (fX0_whyNotInspectedBy I b2 b6)
set_option maxRecDepth 100000 in
set_option maxHeartbeats 4000000 in
theorem kX2_whyNotInspected (S : jX) (I : jI) (o : Nat) (x : Int32) (y : Int32) (hH : jHouse S o) : jM (2, 0, 0) mX2_whyNotInspected [.ref o, .int x, .int y] S I (jRes (some (.int (fX2_whyNotInspected I o x y))) S I) := by
  refine jM.of (ls := [.ref o, .int x, .int y, .long 0, .long 0]) (by decide) (Nat.le_of_ble_eq_true rfl) (by intro v hv; simp only [List.mem_cons, List.not_mem_nil, or_false] at hv; rcases hv with rfl | rfl | rfl <;> rfl) rfl (fun G hR => ?_)
  refine J_aload_n dX2_whyNotInspected_0 rfl rfl ?_
  refine J_iload_n dX2_whyNotInspected_1 rfl ?_
  refine J_cV1r (mc := mX2_boilerAt) hH.1 (by decide) rfl dX2_whyNotInspected_2 mlX2_52 okX2_boilerAt (kX2_boilerAt S I o x hH) (Nat.le_of_ble_eq_true rfl) (Nat.le_of_ble_eq_true rfl) (Nat.le_of_ble_eq_true rfl) (Nat.le_of_ble_eq_true rfl) ?_
  rcases h1 : (fX2_boilerAt I o x) with _ | b2
  · skip
    refine J_astore_n dX2_whyNotInspected_5 (Nat.le_of_ble_eq_true rfl) rfl ?_
    refine J_aload_n dX2_whyNotInspected_6 rfl rfl ?_
    refine J_iload_n dX2_whyNotInspected_7 rfl ?_
    refine J_cV1r (mc := mX2_inspectorAt) hH.1 (by decide) rfl dX2_whyNotInspected_8 mlX2_60 okX2_inspectorAt (kX2_inspectorAt S I o y hH) (Nat.le_of_ble_eq_true rfl) (Nat.le_of_ble_eq_true rfl) (Nat.le_of_ble_eq_true rfl) (Nat.le_of_ble_eq_true rfl) ?_
    rcases h3 : (fX2_inspectorAt I o y) with _ | b4
    · skip
      refine J_astore dX2_whyNotInspected_11 (Nat.le_of_ble_eq_true rfl) rfl ?_
      refine J_aload_n dX2_whyNotInspected_13 rfl rfl ?_
      refine J_ifnull_n (tgt := 22) dX2_whyNotInspected_14 (by decide) ?_
      refine J_ldc (-2000000001) dX2_whyNotInspected_22 jw_262 ?_
      exact J_iret (ty := .int) hR dX2_whyNotInspected_24 rfl rfl (Nat.le_of_ble_eq_true rfl) (Nat.le_of_ble_eq_true rfl) (jRes_i (by first | rfl | (simp only [fX2_whyNotInspected, h1, h3]; done) | (simp only [fX2_whyNotInspected, h1, h3]; rfl)) rfl)
    · skip
      refine J_astore dX2_whyNotInspected_11 (Nat.le_of_ble_eq_true rfl) rfl ?_
      refine J_aload_n dX2_whyNotInspected_13 rfl rfl ?_
      refine J_ifnull_n (tgt := 22) dX2_whyNotInspected_14 (by decide) ?_
      refine J_ldc (-2000000001) dX2_whyNotInspected_22 jw_262 ?_
      exact J_iret (ty := .int) hR dX2_whyNotInspected_24 rfl rfl (Nat.le_of_ble_eq_true rfl) (Nat.le_of_ble_eq_true rfl) (jRes_i (by first | rfl | (simp only [fX2_whyNotInspected, h1, h3]; done) | (simp only [fX2_whyNotInspected, h1, h3]; rfl)) rfl)
  · skip
    refine J_astore_n dX2_whyNotInspected_5 (Nat.le_of_ble_eq_true rfl) rfl ?_
    refine J_aload_n dX2_whyNotInspected_6 rfl rfl ?_
    refine J_iload_n dX2_whyNotInspected_7 rfl ?_
    refine J_cV1r (mc := mX2_inspectorAt) hH.1 (by decide) rfl dX2_whyNotInspected_8 mlX2_60 okX2_inspectorAt (kX2_inspectorAt S I o y hH) (Nat.le_of_ble_eq_true rfl) (Nat.le_of_ble_eq_true rfl) (Nat.le_of_ble_eq_true rfl) (Nat.le_of_ble_eq_true rfl) ?_
    rcases h5 : (fX2_inspectorAt I o y) with _ | b6
    · skip
      refine J_astore dX2_whyNotInspected_11 (Nat.le_of_ble_eq_true rfl) rfl ?_
      refine J_aload_n dX2_whyNotInspected_13 rfl rfl ?_
      refine J_ifnull_r dX2_whyNotInspected_14 ?_
      refine J_aload dX2_whyNotInspected_17 rfl rfl ?_
      refine J_ifnonnull_n dX2_whyNotInspected_19 ?_
      refine J_ldc (-2000000001) dX2_whyNotInspected_22 jw_262 ?_
      exact J_iret (ty := .int) hR dX2_whyNotInspected_24 rfl rfl (Nat.le_of_ble_eq_true rfl) (Nat.le_of_ble_eq_true rfl) (jRes_i (by first | rfl | (simp only [fX2_whyNotInspected, h1, h5]; done) | (simp only [fX2_whyNotInspected, h1, h5]; rfl)) rfl)
    · skip
      refine J_astore dX2_whyNotInspected_11 (Nat.le_of_ble_eq_true rfl) rfl ?_
      refine J_aload_n dX2_whyNotInspected_13 rfl rfl ?_
      refine J_ifnull_r dX2_whyNotInspected_14 ?_
      refine J_aload dX2_whyNotInspected_17 rfl rfl ?_
      refine J_ifnonnull_r (tgt := 25) dX2_whyNotInspected_19 (by decide) ?_
      refine J_aload_n dX2_whyNotInspected_25 rfl rfl ?_
      refine J_aload dX2_whyNotInspected_26 rfl rfl ?_
      refine J_cV1r (mc := mX0_whyNotInspectedBy) (kdBoilerAt hH h1) (by decide) rfl dX2_whyNotInspected_28 mlX2_93 okX0_whyNotInspectedBy (kX0_whyNotInspectedBy S I b2 b6 (kdBoilerAt hH h1) (kdInspectorAt hH h5)) (Nat.le_of_ble_eq_true rfl) (Nat.le_of_ble_eq_true rfl) (Nat.le_of_ble_eq_true rfl) (Nat.le_of_ble_eq_true rfl) ?_
      exact J_iret (ty := .int) hR dX2_whyNotInspected_31 rfl rfl (Nat.le_of_ble_eq_true rfl) (Nat.le_of_ble_eq_true rfl) (jRes_i (by first | rfl | (simp only [fX2_whyNotInspected, h1, h5]; done) | (simp only [fX2_whyNotInspected, h1, h5]; rfl)) rfl)
def fX2_paperThatWouldBe (I : jI) (o : Nat) (x : Int32) (y : Int32) (z : Int32) : Int32 :=
  match (fX2_boilerAt I o x) with
  | none =>
    (-2000000001)
  | some b2 =>
    if (fX6_isInsurer I y) = 0 then
      (-2000000001)
    else
      if z < 0 then
        (-2000000001)
      else
        if z ≤ 1 then
          if z = 0 then
            (fX2_pressureOffered I o b2 y)
          else
            if (fX2_pressureOffered I o b2 y) ≤ 0 then
              (-2000000004)
            else
              (fX2_lastWeekOffered I o b2 y)
        else
          (-2000000001)
set_option maxRecDepth 100000 in
set_option maxHeartbeats 4000000 in
theorem kX2_paperThatWouldBe (S : jX) (I : jI) (o : Nat) (x : Int32) (y : Int32) (z : Int32) (hH : jHouse S o) : jM (2, 0, 0) mX2_paperThatWouldBe [.ref o, .int x, .int y, .int z] S I (jRes (some (.int (fX2_paperThatWouldBe I o x y z))) S I) := by
  refine jM.of (ls := [.ref o, .int x, .int y, .int z, .long 0, .long 0]) (by decide) (Nat.le_of_ble_eq_true rfl) (by intro v hv; simp only [List.mem_cons, List.not_mem_nil, or_false] at hv; rcases hv with rfl | rfl | rfl | rfl <;> rfl) rfl (fun G hR => ?_)
  refine J_aload_n dX2_paperThatWouldBe_0 rfl rfl ?_
  refine J_iload_n dX2_paperThatWouldBe_1 rfl ?_
  refine J_cV1r (mc := mX2_boilerAt) hH.1 (by decide) rfl dX2_paperThatWouldBe_2 mlX2_52 okX2_boilerAt (kX2_boilerAt S I o x hH) (Nat.le_of_ble_eq_true rfl) (Nat.le_of_ble_eq_true rfl) (Nat.le_of_ble_eq_true rfl) (Nat.le_of_ble_eq_true rfl) ?_
  rcases h1 : (fX2_boilerAt I o x) with _ | b2
  · skip
    refine J_astore dX2_paperThatWouldBe_5 (Nat.le_of_ble_eq_true rfl) rfl ?_
    refine J_aload dX2_paperThatWouldBe_7 rfl rfl ?_
    refine J_ifnull_n (tgt := 28) dX2_paperThatWouldBe_9 (by decide) ?_
    refine J_ldc (-2000000001) dX2_paperThatWouldBe_28 jw_262 ?_
    exact J_iret (ty := .int) hR dX2_paperThatWouldBe_30 rfl rfl (Nat.le_of_ble_eq_true rfl) (Nat.le_of_ble_eq_true rfl) (jRes_i (by first | rfl | (simp only [fX2_paperThatWouldBe, h1]; done) | (simp only [fX2_paperThatWouldBe, h1]; rfl)) rfl)
  · skip
    refine J_astore dX2_paperThatWouldBe_5 (Nat.le_of_ble_eq_true rfl) rfl ?_
    refine J_aload dX2_paperThatWouldBe_7 rfl rfl ?_
    refine J_ifnull_r dX2_paperThatWouldBe_9 ?_
    refine J_iload_n dX2_paperThatWouldBe_12 rfl ?_
    refine J_cS1r (mc := mX6_isInsurer) dX2_paperThatWouldBe_13 mlX2_73 okX6_isInsurer (kX6_isInsurer S I y ) (Nat.le_of_ble_eq_true rfl) (Nat.le_of_ble_eq_true rfl) (Nat.le_of_ble_eq_true rfl) (Nat.le_of_ble_eq_true rfl) ?_
    refine J_if_eq (tgt := 28) dX2_paperThatWouldBe_16 (by decide) (fun h3 => ?_) (fun h3 => ?_)
    · skip
      refine J_ldc (-2000000001) dX2_paperThatWouldBe_28 jw_262 ?_
      exact J_iret (ty := .int) hR dX2_paperThatWouldBe_30 rfl rfl (Nat.le_of_ble_eq_true rfl) (Nat.le_of_ble_eq_true rfl) (jRes_i (by first | rfl | (simp only [fX2_paperThatWouldBe, h1, if_pos h3]; done) | (simp only [fX2_paperThatWouldBe, h1, if_pos h3]; rfl)) rfl)
    · skip
      refine J_iload_n dX2_paperThatWouldBe_19 rfl ?_
      refine J_if_lt (tgt := 28) dX2_paperThatWouldBe_20 (by decide) (fun h4 => ?_) (fun h4 => ?_)
      · skip
        refine J_ldc (-2000000001) dX2_paperThatWouldBe_28 jw_262 ?_
        exact J_iret (ty := .int) hR dX2_paperThatWouldBe_30 rfl rfl (Nat.le_of_ble_eq_true rfl) (Nat.le_of_ble_eq_true rfl) (jRes_i (by first | rfl | (simp only [fX2_paperThatWouldBe, h1, if_neg h3, if_pos h4]; done) | (simp only [fX2_paperThatWouldBe, h1, if_neg h3, if_pos h4]; rfl)) rfl)
      · skip
        refine J_iload_n dX2_paperThatWouldBe_23 rfl ?_
        refine J_iconst (1) dX2_paperThatWouldBe_24 rfl ?_
        refine J_icmp_le (tgt := 31) dX2_paperThatWouldBe_25 (by decide) (fun h5 => ?_) (fun h5 => ?_)
        · skip
          refine J_aload_n dX2_paperThatWouldBe_31 rfl rfl ?_
          refine J_aload dX2_paperThatWouldBe_32 rfl rfl ?_
          refine J_iload_n dX2_paperThatWouldBe_34 rfl ?_
          refine J_cV2r (mc := mX2_pressureOffered) hH.1 (by decide) rfl dX2_paperThatWouldBe_35 mlX2_100 okX2_pressureOffered (kX2_pressureOffered S I o b2 y hH (kdBoilerAt hH h1)) (Nat.le_of_ble_eq_true rfl) (Nat.le_of_ble_eq_true rfl) (Nat.le_of_ble_eq_true rfl) (Nat.le_of_ble_eq_true rfl) ?_
          refine J_istore dX2_paperThatWouldBe_38 (Nat.le_of_ble_eq_true rfl) ?_
          refine J_iload_n dX2_paperThatWouldBe_40 rfl ?_
          refine J_if_ne (tgt := 47) dX2_paperThatWouldBe_41 (by decide) (fun h6 => ?_) (fun h6 => ?_)
          · skip
            refine J_iload dX2_paperThatWouldBe_47 rfl ?_
            refine J_if_le (tgt := 62) dX2_paperThatWouldBe_49 (by decide) (fun h7 => ?_) (fun h7 => ?_)
            · skip
              refine J_ldc (-2000000004) dX2_paperThatWouldBe_62 jw_517 ?_
              exact J_iret (ty := .int) hR dX2_paperThatWouldBe_64 rfl rfl (Nat.le_of_ble_eq_true rfl) (Nat.le_of_ble_eq_true rfl) (jRes_i (by first | rfl | (simp only [fX2_paperThatWouldBe, h1, if_neg h3, if_neg h4, if_pos h5, if_neg h6, if_pos h7]; done) | (simp only [fX2_paperThatWouldBe, h1, if_neg h3, if_neg h4, if_pos h5, if_neg h6, if_pos h7]; rfl)) rfl)
            · skip
              refine J_aload_n dX2_paperThatWouldBe_52 rfl rfl ?_
              refine J_aload dX2_paperThatWouldBe_53 rfl rfl ?_
              refine J_iload_n dX2_paperThatWouldBe_55 rfl ?_
              refine J_cV2r (mc := mX2_lastWeekOffered) hH.1 (by decide) rfl dX2_paperThatWouldBe_56 mlX2_104 okX2_lastWeekOffered (kX2_lastWeekOffered S I o b2 y hH (kdBoilerAt hH h1)) (Nat.le_of_ble_eq_true rfl) (Nat.le_of_ble_eq_true rfl) (Nat.le_of_ble_eq_true rfl) (Nat.le_of_ble_eq_true rfl) ?_
              refine J_goto (tgt := 64) dX2_paperThatWouldBe_59 (by decide) ?_
              exact J_iret (ty := .int) hR dX2_paperThatWouldBe_64 rfl rfl (Nat.le_of_ble_eq_true rfl) (Nat.le_of_ble_eq_true rfl) (jRes_i (by first | rfl | (simp only [fX2_paperThatWouldBe, h1, if_neg h3, if_neg h4, if_pos h5, if_neg h6, if_neg h7]; done) | (simp only [fX2_paperThatWouldBe, h1, if_neg h3, if_neg h4, if_pos h5, if_neg h6, if_neg h7]; rfl)) rfl)
          · skip
            refine J_iload dX2_paperThatWouldBe_44 rfl ?_
            exact J_iret (ty := .int) hR dX2_paperThatWouldBe_46 rfl rfl (Nat.le_of_ble_eq_true rfl) (Nat.le_of_ble_eq_true rfl) (jRes_i (by first | rfl | (simp only [fX2_paperThatWouldBe, h1, if_neg h3, if_neg h4, if_pos h5, if_pos h6]; done) | (simp only [fX2_paperThatWouldBe, h1, if_neg h3, if_neg h4, if_pos h5, if_pos h6]; rfl)) rfl)
        · skip
          refine J_ldc (-2000000001) dX2_paperThatWouldBe_28 jw_262 ?_
          exact J_iret (ty := .int) hR dX2_paperThatWouldBe_30 rfl rfl (Nat.le_of_ble_eq_true rfl) (Nat.le_of_ble_eq_true rfl) (jRes_i (by first | rfl | (simp only [fX2_paperThatWouldBe, h1, if_neg h3, if_neg h4, if_neg h5]; done) | (simp only [fX2_paperThatWouldBe, h1, if_neg h3, if_neg h4, if_neg h5]; rfl)) rfl)
def fX2_betterInsurer (I : jI) (o : Nat) (x : Int32) : Int32 :=
  match (fX2_boilerAt I o x) with
  | none =>
    (-2000000001)
  | some b2 =>
    if (fX2_pressureOffered I o b2 0) < (I b2 1) then
      if (fX2_pressureOffered I o b2 1) < (I b2 1) then
        (-2000000004)
      else
        1
    else
      if (fX2_pressureOffered I o b2 1) < (I b2 1) then
        0
      else
        if (fX2_isOneBetter I o b2) = 0 then
          0
        else
          1
set_option maxRecDepth 100000 in
set_option maxHeartbeats 4000000 in
theorem kX2_betterInsurer (S : jX) (I : jI) (o : Nat) (x : Int32) (hH : jHouse S o) : jM (3, 0, 0) mX2_betterInsurer [.ref o, .int x] S I (jRes (some (.int (fX2_betterInsurer I o x))) S I) := by
  refine jM.of (ls := [.ref o, .int x, .long 0, .long 0, .long 0]) (by decide) (Nat.le_of_ble_eq_true rfl) (by intro v hv; simp only [List.mem_cons, List.not_mem_nil, or_false] at hv; rcases hv with rfl | rfl <;> rfl) rfl (fun G hR => ?_)
  refine J_aload_n dX2_betterInsurer_0 rfl rfl ?_
  refine J_iload_n dX2_betterInsurer_1 rfl ?_
  refine J_cV1r (mc := mX2_boilerAt) hH.1 (by decide) rfl dX2_betterInsurer_2 mlX2_52 okX2_boilerAt (kX2_boilerAt S I o x hH) (Nat.le_of_ble_eq_true rfl) (Nat.le_of_ble_eq_true rfl) (Nat.le_of_ble_eq_true rfl) (Nat.le_of_ble_eq_true rfl) ?_
  rcases h1 : (fX2_boilerAt I o x) with _ | b2
  · skip
    refine J_astore_n dX2_betterInsurer_5 (Nat.le_of_ble_eq_true rfl) rfl ?_
    refine J_aload_n dX2_betterInsurer_6 rfl rfl ?_
    refine J_ifnonnull_n dX2_betterInsurer_7 ?_
    refine J_ldc (-2000000001) dX2_betterInsurer_10 jw_262 ?_
    exact J_iret (ty := .int) hR dX2_betterInsurer_12 rfl rfl (Nat.le_of_ble_eq_true rfl) (Nat.le_of_ble_eq_true rfl) (jRes_i (by first | rfl | (simp only [fX2_betterInsurer, h1]; done) | (simp only [fX2_betterInsurer, h1]; rfl)) rfl)
  · skip
    refine J_astore_n dX2_betterInsurer_5 (Nat.le_of_ble_eq_true rfl) rfl ?_
    refine J_aload_n dX2_betterInsurer_6 rfl rfl ?_
    refine J_ifnonnull_r (tgt := 13) dX2_betterInsurer_7 (by decide) ?_
    refine J_aload_n dX2_betterInsurer_13 rfl rfl ?_
    refine J_aload_n dX2_betterInsurer_14 rfl rfl ?_
    refine J_iconst (0) dX2_betterInsurer_15 rfl ?_
    refine J_cV2r (mc := mX2_pressureOffered) hH.1 (by decide) rfl dX2_betterInsurer_16 mlX2_100 okX2_pressureOffered (kX2_pressureOffered S I o b2 0 hH (kdBoilerAt hH h1)) (Nat.le_of_ble_eq_true rfl) (Nat.le_of_ble_eq_true rfl) (Nat.le_of_ble_eq_true rfl) (Nat.le_of_ble_eq_true rfl) ?_
    refine J_aload_n dX2_betterInsurer_19 rfl rfl ?_
    refine J_getI dX2_betterInsurer_20 flX2_90 rfl (kdBoilerAt hH h1) ?_
    refine J_icmp_lt (tgt := 30) dX2_betterInsurer_23 (by decide) (fun h3 => ?_) (fun h3 => ?_)
    · skip
      refine J_iconst (0) dX2_betterInsurer_30 rfl ?_
      refine J_istore_n dX2_betterInsurer_31 (Nat.le_of_ble_eq_true rfl) ?_
      refine J_aload_n dX2_betterInsurer_32 rfl rfl ?_
      refine J_aload_n dX2_betterInsurer_33 rfl rfl ?_
      refine J_iconst (1) dX2_betterInsurer_34 rfl ?_
      refine J_cV2r (mc := mX2_pressureOffered) hH.1 (by decide) rfl dX2_betterInsurer_35 mlX2_100 okX2_pressureOffered (kX2_pressureOffered S I o b2 1 hH (kdBoilerAt hH h1)) (Nat.le_of_ble_eq_true rfl) (Nat.le_of_ble_eq_true rfl) (Nat.le_of_ble_eq_true rfl) (Nat.le_of_ble_eq_true rfl) ?_
      refine J_aload_n dX2_betterInsurer_38 rfl rfl ?_
      refine J_getI dX2_betterInsurer_39 flX2_90 rfl (kdBoilerAt hH h1) ?_
      refine J_icmp_lt (tgt := 49) dX2_betterInsurer_42 (by decide) (fun h4 => ?_) (fun h4 => ?_)
      · skip
        refine J_iconst (0) dX2_betterInsurer_49 rfl ?_
        refine J_istore dX2_betterInsurer_50 (Nat.le_of_ble_eq_true rfl) ?_
        refine J_iload_n dX2_betterInsurer_52 rfl ?_
        refine J_if_eq (tgt := 75) dX2_betterInsurer_53 (by decide) (fun h5 => ?_) (fun h5 => ?_)
        · skip
          refine J_iload_n dX2_betterInsurer_75 rfl ?_
          refine J_if_eq (tgt := 81) dX2_betterInsurer_76 (by decide) (fun h6 => ?_) (fun h6 => ?_)
          · skip
            refine J_iload dX2_betterInsurer_81 rfl ?_
            refine J_if_eq (tgt := 90) dX2_betterInsurer_83 (by decide) (fun h7 => ?_) (fun h7 => ?_)
            · skip
              refine J_ldc (-2000000004) dX2_betterInsurer_90 jw_517 ?_
              exact J_iret (ty := .int) hR dX2_betterInsurer_92 rfl rfl (Nat.le_of_ble_eq_true rfl) (Nat.le_of_ble_eq_true rfl) (jRes_i (by first | rfl | (simp only [fX2_betterInsurer, h1, if_pos h3, if_pos h4]; done) | (simp only [fX2_betterInsurer, h1, if_pos h3, if_pos h4]; rfl)) rfl)
            · skip
              exact absurd h7 (by decide)
          · skip
            exact absurd h6 (by decide)
        · skip
          exact absurd h5 (by decide)
      · skip
        refine J_iconst (1) dX2_betterInsurer_45 rfl ?_
        refine J_goto (tgt := 50) dX2_betterInsurer_46 (by decide) ?_
        refine J_istore dX2_betterInsurer_50 (Nat.le_of_ble_eq_true rfl) ?_
        refine J_iload_n dX2_betterInsurer_52 rfl ?_
        refine J_if_eq (tgt := 75) dX2_betterInsurer_53 (by decide) (fun h8 => ?_) (fun h8 => ?_)
        · skip
          refine J_iload_n dX2_betterInsurer_75 rfl ?_
          refine J_if_eq (tgt := 81) dX2_betterInsurer_76 (by decide) (fun h9 => ?_) (fun h9 => ?_)
          · skip
            refine J_iload dX2_betterInsurer_81 rfl ?_
            refine J_if_eq (tgt := 90) dX2_betterInsurer_83 (by decide) (fun h10 => ?_) (fun h10 => ?_)
            · skip
              exact absurd h10 (by decide)
            · skip
              refine J_iconst (1) dX2_betterInsurer_86 rfl ?_
              refine J_goto (tgt := 92) dX2_betterInsurer_87 (by decide) ?_
              exact J_iret (ty := .int) hR dX2_betterInsurer_92 rfl rfl (Nat.le_of_ble_eq_true rfl) (Nat.le_of_ble_eq_true rfl) (jRes_i (by first | rfl | (simp only [fX2_betterInsurer, h1, if_pos h3, if_neg h4]; done) | (simp only [fX2_betterInsurer, h1, if_pos h3, if_neg h4]; rfl)) rfl)
          · skip
            exact absurd h9 (by decide)
        · skip
          exact absurd h8 (by decide)
    · skip
      refine J_iconst (1) dX2_betterInsurer_26 rfl ?_
      refine J_goto (tgt := 31) dX2_betterInsurer_27 (by decide) ?_
      refine J_istore_n dX2_betterInsurer_31 (Nat.le_of_ble_eq_true rfl) ?_
      refine J_aload_n dX2_betterInsurer_32 rfl rfl ?_
      refine J_aload_n dX2_betterInsurer_33 rfl rfl ?_
      refine J_iconst (1) dX2_betterInsurer_34 rfl ?_
      refine J_cV2r (mc := mX2_pressureOffered) hH.1 (by decide) rfl dX2_betterInsurer_35 mlX2_100 okX2_pressureOffered (kX2_pressureOffered S I o b2 1 hH (kdBoilerAt hH h1)) (Nat.le_of_ble_eq_true rfl) (Nat.le_of_ble_eq_true rfl) (Nat.le_of_ble_eq_true rfl) (Nat.le_of_ble_eq_true rfl) ?_
      refine J_aload_n dX2_betterInsurer_38 rfl rfl ?_
      refine J_getI dX2_betterInsurer_39 flX2_90 rfl (kdBoilerAt hH h1) ?_
      refine J_icmp_lt (tgt := 49) dX2_betterInsurer_42 (by decide) (fun h11 => ?_) (fun h11 => ?_)
      · skip
        refine J_iconst (0) dX2_betterInsurer_49 rfl ?_
        refine J_istore dX2_betterInsurer_50 (Nat.le_of_ble_eq_true rfl) ?_
        refine J_iload_n dX2_betterInsurer_52 rfl ?_
        refine J_if_eq (tgt := 75) dX2_betterInsurer_53 (by decide) (fun h12 => ?_) (fun h12 => ?_)
        · skip
          exact absurd h12 (by decide)
        · skip
          refine J_iload dX2_betterInsurer_56 rfl ?_
          refine J_if_eq (tgt := 75) dX2_betterInsurer_58 (by decide) (fun h13 => ?_) (fun h13 => ?_)
          · skip
            refine J_iload_n dX2_betterInsurer_75 rfl ?_
            refine J_if_eq (tgt := 81) dX2_betterInsurer_76 (by decide) (fun h14 => ?_) (fun h14 => ?_)
            · skip
              exact absurd h14 (by decide)
            · skip
              refine J_iconst (0) dX2_betterInsurer_79 rfl ?_
              exact J_iret (ty := .int) hR dX2_betterInsurer_80 rfl rfl (Nat.le_of_ble_eq_true rfl) (Nat.le_of_ble_eq_true rfl) (jRes_i (by first | rfl | (simp only [fX2_betterInsurer, h1, if_neg h3, if_pos h11]; done) | (simp only [fX2_betterInsurer, h1, if_neg h3, if_pos h11]; rfl)) rfl)
          · skip
            exact absurd h13 (by decide)
      · skip
        refine J_iconst (1) dX2_betterInsurer_45 rfl ?_
        refine J_goto (tgt := 50) dX2_betterInsurer_46 (by decide) ?_
        refine J_istore dX2_betterInsurer_50 (Nat.le_of_ble_eq_true rfl) ?_
        refine J_iload_n dX2_betterInsurer_52 rfl ?_
        refine J_if_eq (tgt := 75) dX2_betterInsurer_53 (by decide) (fun h15 => ?_) (fun h15 => ?_)
        · skip
          exact absurd h15 (by decide)
        · skip
          refine J_iload dX2_betterInsurer_56 rfl ?_
          refine J_if_eq (tgt := 75) dX2_betterInsurer_58 (by decide) (fun h16 => ?_) (fun h16 => ?_)
          · skip
            exact absurd h16 (by decide)
          · skip
            refine J_aload_n dX2_betterInsurer_61 rfl rfl ?_
            refine J_aload_n dX2_betterInsurer_62 rfl rfl ?_
            refine J_cV1r (mc := mX2_isOneBetter) hH.1 (by decide) rfl dX2_betterInsurer_63 mlX2_203 okX2_isOneBetter (kX2_isOneBetter S I o b2 hH (kdBoilerAt hH h1)) (Nat.le_of_ble_eq_true rfl) (Nat.le_of_ble_eq_true rfl) (Nat.le_of_ble_eq_true rfl) (Nat.le_of_ble_eq_true rfl) ?_
            refine J_if_eq (tgt := 73) dX2_betterInsurer_66 (by decide) (fun h17 => ?_) (fun h17 => ?_)
            · skip
              refine J_iconst (0) dX2_betterInsurer_73 rfl ?_
              exact J_iret (ty := .int) hR dX2_betterInsurer_74 rfl rfl (Nat.le_of_ble_eq_true rfl) (Nat.le_of_ble_eq_true rfl) (jRes_i (by first | rfl | (simp only [fX2_betterInsurer, h1, if_neg h3, if_neg h11, if_pos h17]; done) | (simp only [fX2_betterInsurer, h1, if_neg h3, if_neg h11, if_pos h17]; rfl)) rfl)
            · skip
              refine J_iconst (1) dX2_betterInsurer_69 rfl ?_
              refine J_goto (tgt := 74) dX2_betterInsurer_70 (by decide) ?_
              exact J_iret (ty := .int) hR dX2_betterInsurer_74 rfl rfl (Nat.le_of_ble_eq_true rfl) (Nat.le_of_ble_eq_true rfl) (jRes_i (by first | rfl | (simp only [fX2_betterInsurer, h1, if_neg h3, if_neg h11, if_neg h17]; done) | (simp only [fX2_betterInsurer, h1, if_neg h3, if_neg h11, if_neg h17]; rfl)) rfl)
def fX2_weeksUntilPutOut (I : jI) (o : Nat) (x : Int32) : Int32 :=
  match (fX2_boilerAt I o x) with
  | none =>
    (-2000000001)
  | some b2 =>
    (fX0_weeksUntilPutOut I b2 (I o 6))
set_option maxRecDepth 100000 in
set_option maxHeartbeats 4000000 in
theorem kX2_weeksUntilPutOut (S : jX) (I : jI) (o : Nat) (x : Int32) (hH : jHouse S o) : jM (2, 0, 0) mX2_weeksUntilPutOut [.ref o, .int x] S I (jRes (some (.int (fX2_weeksUntilPutOut I o x))) S I) := by
  refine jM.of (ls := [.ref o, .int x, .long 0]) (by decide) (Nat.le_of_ble_eq_true rfl) (by intro v hv; simp only [List.mem_cons, List.not_mem_nil, or_false] at hv; rcases hv with rfl | rfl <;> rfl) rfl (fun G hR => ?_)
  refine J_aload_n dX2_weeksUntilPutOut_0 rfl rfl ?_
  refine J_iload_n dX2_weeksUntilPutOut_1 rfl ?_
  refine J_cV1r (mc := mX2_boilerAt) hH.1 (by decide) rfl dX2_weeksUntilPutOut_2 mlX2_52 okX2_boilerAt (kX2_boilerAt S I o x hH) (Nat.le_of_ble_eq_true rfl) (Nat.le_of_ble_eq_true rfl) (Nat.le_of_ble_eq_true rfl) (Nat.le_of_ble_eq_true rfl) ?_
  rcases h1 : (fX2_boilerAt I o x) with _ | b2
  · skip
    refine J_astore_n dX2_weeksUntilPutOut_5 (Nat.le_of_ble_eq_true rfl) rfl ?_
    refine J_aload_n dX2_weeksUntilPutOut_6 rfl rfl ?_
    refine J_ifnonnull_n dX2_weeksUntilPutOut_7 ?_
    refine J_ldc (-2000000001) dX2_weeksUntilPutOut_10 jw_262 ?_
    refine J_goto (tgt := 23) dX2_weeksUntilPutOut_12 (by decide) ?_
    exact J_iret (ty := .int) hR dX2_weeksUntilPutOut_23 rfl rfl (Nat.le_of_ble_eq_true rfl) (Nat.le_of_ble_eq_true rfl) (jRes_i (by first | rfl | (simp only [fX2_weeksUntilPutOut, h1]; done) | (simp only [fX2_weeksUntilPutOut, h1]; rfl)) rfl)
  · skip
    refine J_astore_n dX2_weeksUntilPutOut_5 (Nat.le_of_ble_eq_true rfl) rfl ?_
    refine J_aload_n dX2_weeksUntilPutOut_6 rfl rfl ?_
    refine J_ifnonnull_r (tgt := 15) dX2_weeksUntilPutOut_7 (by decide) ?_
    refine J_aload_n dX2_weeksUntilPutOut_15 rfl rfl ?_
    refine J_aload_n dX2_weeksUntilPutOut_16 rfl rfl ?_
    refine J_getI dX2_weeksUntilPutOut_17 flX2_39 rfl hH.1 ?_
    refine J_cV1r (mc := mX0_weeksUntilPutOut) (kdBoilerAt hH h1) (by decide) rfl dX2_weeksUntilPutOut_20 mlX2_207 okX0_weeksUntilPutOut (kX0_weeksUntilPutOut S I b2 (I o 6) (kdBoilerAt hH h1)) (Nat.le_of_ble_eq_true rfl) (Nat.le_of_ble_eq_true rfl) (Nat.le_of_ble_eq_true rfl) (Nat.le_of_ble_eq_true rfl) ?_
    exact J_iret (ty := .int) hR dX2_weeksUntilPutOut_23 rfl rfl (Nat.le_of_ble_eq_true rfl) (Nat.le_of_ble_eq_true rfl) (jRes_i (by first | rfl | (simp only [fX2_weeksUntilPutOut, h1]; done) | (simp only [fX2_weeksUntilPutOut, h1]; rfl)) rfl)
def fX2_changeSetting (I : jI) (o : Nat) (x : Int32) (y : Int32) : Int32 × jI :=
  if x < 0 then
    ((-2000000001), I)
  else
    if 4 ≤ x then
      ((-2000000001), I)
    else
      if x < 4 then
        if y < 0 then
          ((-2000000001), I)
        else
          if y ≤ (jgs (x).toNatClampNeg) then
            ((I (o + 3) (x).toNatClampNeg), (jset I (o + 3) (x).toNatClampNeg y))
          else
            ((-2000000001), I)
      else
        ((-2000000001), I)
set_option maxRecDepth 100000 in
set_option maxHeartbeats 4000000 in
theorem kX2_changeSetting (S : jX) (I : jI) (o : Nat) (x : Int32) (y : Int32) (hH : jHouse S o) : jM (0, 0, 0) mX2_changeSetting [.ref o, .int x, .int y] S I (jRes (some (.int (fX2_changeSetting I o x y).1)) S (fX2_changeSetting I o x y).2) := by
  refine jM.of (ls := [.ref o, .int x, .int y, .long 0]) (by decide) (Nat.le_of_ble_eq_true rfl) (by intro v hv; simp only [List.mem_cons, List.not_mem_nil, or_false] at hv; rcases hv with rfl | rfl | rfl <;> rfl) rfl (fun G hR => ?_)
  refine J_iload_n dX2_changeSetting_0 rfl ?_
  refine J_if_lt (tgt := 21) dX2_changeSetting_1 (by decide) (fun h1 => ?_) (fun h1 => ?_)
  · skip
    refine J_ldc (-2000000001) dX2_changeSetting_21 jw_262 ?_
    exact J_iret (ty := .int) hR dX2_changeSetting_23 rfl rfl (Nat.le_of_ble_eq_true rfl) (Nat.le_of_ble_eq_true rfl) (jRes_f (by first | rfl | (simp only [fX2_changeSetting, if_pos h1]; done) | (simp only [fX2_changeSetting, if_pos h1]; rfl)))
  · skip
    refine J_iload_n dX2_changeSetting_4 rfl ?_
    refine J_aload_n dX2_changeSetting_5 rfl rfl ?_
    refine J_getR dX2_changeSetting_6 flX2_23 rfl hH.1 hH.r2 ?_
    refine J_alen (x := 4) dX2_changeSetting_9 hH.a2 ⟨by decide, by decide⟩ rfl ?_
    refine J_icmp_ge (tgt := 21) dX2_changeSetting_10 (by decide) (fun h2 => ?_) (fun h2 => ?_)
    · skip
      refine J_ldc (-2000000001) dX2_changeSetting_21 jw_262 ?_
      exact J_iret (ty := .int) hR dX2_changeSetting_23 rfl rfl (Nat.le_of_ble_eq_true rfl) (Nat.le_of_ble_eq_true rfl) (jRes_f (by first | rfl | (simp only [fX2_changeSetting, if_neg h1, if_pos h2]; done) | (simp only [fX2_changeSetting, if_neg h1, if_pos h2]; rfl)))
    · skip
      refine J_iload_n dX2_changeSetting_13 rfl ?_
      refine J_gets dX2_changeSetting_14 jw_446 ?_
      refine J_slen dX2_changeSetting_17 ?_
      refine J_icmp_lt (tgt := 24) dX2_changeSetting_18 (by decide) (fun h3 => ?_) (fun h3 => ?_)
      · skip
        refine J_iload_n dX2_changeSetting_24 rfl ?_
        refine J_if_lt (tgt := 37) dX2_changeSetting_25 (by decide) (fun h4 => ?_) (fun h4 => ?_)
        · skip
          refine J_ldc (-2000000001) dX2_changeSetting_37 jw_262 ?_
          exact J_iret (ty := .int) hR dX2_changeSetting_39 rfl rfl (Nat.le_of_ble_eq_true rfl) (Nat.le_of_ble_eq_true rfl) (jRes_f (by first | rfl | (simp only [fX2_changeSetting, if_neg h1, if_neg h2, if_pos h3, if_pos h4]; done) | (simp only [fX2_changeSetting, if_neg h1, if_neg h2, if_pos h3, if_pos h4]; rfl)))
        · skip
          refine J_iload_n dX2_changeSetting_28 rfl ?_
          refine J_gets dX2_changeSetting_29 jw_446 ?_
          refine J_iload_n dX2_changeSetting_32 rfl ?_
          refine J_sld dX2_changeSetting_33 (jvp_4 (by assumption) (by assumption)) ?_
          refine J_icmp_le (tgt := 40) dX2_changeSetting_34 (by decide) (fun h5 => ?_) (fun h5 => ?_)
          · skip
            refine J_aload_n dX2_changeSetting_40 rfl rfl ?_
            refine J_getR dX2_changeSetting_41 flX2_23 rfl hH.1 hH.r2 ?_
            refine J_iload_n dX2_changeSetting_44 rfl ?_
            refine J_iaload dX2_changeSetting_45 hH.a2 (jvp_4 (by assumption) (by assumption)) ?_
            refine J_istore_n dX2_changeSetting_46 (Nat.le_of_ble_eq_true rfl) ?_
            refine J_aload_n dX2_changeSetting_47 rfl rfl ?_
            refine J_getR dX2_changeSetting_48 flX2_23 rfl hH.1 hH.r2 ?_
            refine J_iload_n dX2_changeSetting_51 rfl ?_
            refine J_iload_n dX2_changeSetting_52 rfl ?_
            refine J_iastore dX2_changeSetting_53 hH.a2 (jvp_4 (by assumption) (by assumption)) ?_
            refine J_iload_n dX2_changeSetting_54 rfl ?_
            exact J_iret (ty := .int) hR dX2_changeSetting_55 rfl rfl (Nat.le_of_ble_eq_true rfl) (Nat.le_of_ble_eq_true rfl) (jRes_f (by first | rfl | (simp only [fX2_changeSetting, if_neg h1, if_neg h2, if_pos h3, if_neg h4, if_pos h5]; done) | (simp only [fX2_changeSetting, if_neg h1, if_neg h2, if_pos h3, if_neg h4, if_pos h5]; rfl)))
          · skip
            refine J_ldc (-2000000001) dX2_changeSetting_37 jw_262 ?_
            exact J_iret (ty := .int) hR dX2_changeSetting_39 rfl rfl (Nat.le_of_ble_eq_true rfl) (Nat.le_of_ble_eq_true rfl) (jRes_f (by first | rfl | (simp only [fX2_changeSetting, if_neg h1, if_neg h2, if_pos h3, if_neg h4, if_neg h5]; done) | (simp only [fX2_changeSetting, if_neg h1, if_neg h2, if_pos h3, if_neg h4, if_neg h5]; rfl)))
      · skip
        refine J_ldc (-2000000001) dX2_changeSetting_21 jw_262 ?_
        exact J_iret (ty := .int) hR dX2_changeSetting_23 rfl rfl (Nat.le_of_ble_eq_true rfl) (Nat.le_of_ble_eq_true rfl) (jRes_f (by first | rfl | (simp only [fX2_changeSetting, if_neg h1, if_neg h2, if_neg h3]; done) | (simp only [fX2_changeSetting, if_neg h1, if_neg h2, if_neg h3]; rfl)))
