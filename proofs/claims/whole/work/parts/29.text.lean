def jText (S : jX) (o : Nat) : Prop := jKd S o 4 0 ∧ S.2.2 o 0 = some (o + 1) ∧ jKd S (o + 1) 9 60
theorem jvp_60' {x : Int32} (h1 : ¬ x < 0) (h2 : x < 60) : vp_in x 60 := jvp h1 h2 (by decide)
def fX4_length (I : jI) (o : Nat) : Int32 :=
  (I o 1)
set_option maxRecDepth 100000 in
set_option maxHeartbeats 4000000 in
theorem kX4_length (S : jX) (I : jI) (o : Nat) (hX : jText S o) : jM (0, 0, 0) mX4_length [.ref o] S I (jRes (some (.int (fX4_length I o))) S I) := by
  refine jM.of (ls := [.ref o]) (by decide) (Nat.le_of_ble_eq_true rfl) (by intro v hv; simp only [List.mem_cons, List.not_mem_nil, or_false] at hv; rcases hv with rfl <;> rfl) rfl (fun G hR => ?_)
  refine J_aload_n dX4_length_0 rfl rfl ?_
  refine J_getI dX4_length_1 flX4_15 rfl hX.1 ?_
  exact J_iret (ty := .int) hR dX4_length_4 rfl rfl (Nat.le_of_ble_eq_true rfl) (Nat.le_of_ble_eq_true rfl) (jRes_i (by first | (simp only [fX4_length]; done) | rfl | (simp only [fX4_length]; rfl)) rfl)
def fX4_append (I : jI) (o : Nat) (x : Int32) : Int32 × jI :=
  if x < 32 then
    ((-2000000001), I)
  else
    if x ≤ 126 then
      if (I o 1) < 0 then
        ((-2000000003), I)
      else
        if (I o 1) < 60 then
          (((jset (jset I (o + 1) ((I o 1)).toNatClampNeg ((x.toUInt32 % 65536).toInt32)) o 1 (((jset I (o + 1) ((I o 1)).toNatClampNeg ((x.toUInt32 % 65536).toInt32)) o 1) + 1)) o 1), (jset (jset I (o + 1) ((I o 1)).toNatClampNeg ((x.toUInt32 % 65536).toInt32)) o 1 (((jset I (o + 1) ((I o 1)).toNatClampNeg ((x.toUInt32 % 65536).toInt32)) o 1) + 1)))
        else
          ((-2000000003), I)
    else
      ((-2000000001), I)
set_option maxRecDepth 100000 in
set_option maxHeartbeats 4000000 in
theorem kX4_append (S : jX) (I : jI) (o : Nat) (x : Int32) (hX : jText S o) : jM (0, 0, 0) mX4_append [.ref o, .int x] S I (jRes (some (.int (fX4_append I o x).1)) S (fX4_append I o x).2) := by
  refine jM.of (ls := [.ref o, .int x]) (by decide) (Nat.le_of_ble_eq_true rfl) (by intro v hv; simp only [List.mem_cons, List.not_mem_nil, or_false] at hv; rcases hv with rfl | rfl <;> rfl) rfl (fun G hR => ?_)
  refine J_iload_n dX4_append_0 rfl ?_
  refine J_bipush (32) dX4_append_1 rfl ?_
  refine J_icmp_lt (tgt := 12) dX4_append_3 (by decide) (fun h1 => ?_) (fun h1 => ?_)
  · skip
    refine J_ldc (-2000000001) dX4_append_12 jw_612 ?_
    exact J_iret (ty := .int) hR dX4_append_14 rfl rfl (Nat.le_of_ble_eq_true rfl) (Nat.le_of_ble_eq_true rfl) (jRes_f (by first | (simp only [fX4_append, if_pos h1]; done) | rfl | (simp only [fX4_append, if_pos h1]; rfl)))
  · skip
    refine J_iload_n dX4_append_6 rfl ?_
    refine J_bipush (126) dX4_append_7 rfl ?_
    refine J_icmp_le (tgt := 15) dX4_append_9 (by decide) (fun h2 => ?_) (fun h2 => ?_)
    · skip
      refine J_aload_n dX4_append_15 rfl rfl ?_
      refine J_getI dX4_append_16 flX4_15 rfl hX.1 ?_
      refine J_if_lt (tgt := 34) dX4_append_19 (by decide) (fun h3 => ?_) (fun h3 => ?_)
      · skip
        refine J_ldc (-2000000003) dX4_append_34 jw_613 ?_
        exact J_iret (ty := .int) hR dX4_append_36 rfl rfl (Nat.le_of_ble_eq_true rfl) (Nat.le_of_ble_eq_true rfl) (jRes_f (by first | (simp only [fX4_append, if_neg h1, if_pos h2, if_pos h3]; done) | rfl | (simp only [fX4_append, if_neg h1, if_pos h2, if_pos h3]; rfl)))
      · skip
        refine J_aload_n dX4_append_22 rfl rfl ?_
        refine J_getI dX4_append_23 flX4_15 rfl hX.1 ?_
        refine J_aload_n dX4_append_26 rfl rfl ?_
        refine J_getR dX4_append_27 flX4_9 rfl hX.1 hX.2.1 ?_
        refine J_alen (x := 60) dX4_append_30 hX.2.2 ⟨by decide, by decide⟩ rfl ?_
        refine J_icmp_lt (tgt := 37) dX4_append_31 (by decide) (fun h4 => ?_) (fun h4 => ?_)
        · skip
          refine J_aload_n dX4_append_37 rfl rfl ?_
          refine J_getR dX4_append_38 flX4_9 rfl hX.1 hX.2.1 ?_
          refine J_aload_n dX4_append_41 rfl rfl ?_
          refine J_getI dX4_append_42 flX4_15 rfl hX.1 ?_
          refine J_iload_n dX4_append_45 rfl ?_
          refine J_i2c dX4_append_46 ?_
          refine J_castore dX4_append_47 hX.2.2 (jvp_60' (by assumption) (by assumption)) (pk_vc _) ?_
          refine J_aload_n dX4_append_48 rfl rfl ?_
          refine J_dup dX4_append_49 rfl ?_
          refine J_getI dX4_append_50 flX4_15 rfl hX.1 ?_
          refine J_iconst (1) dX4_append_53 rfl ?_
          refine J_iadd dX4_append_54 ?_
          refine J_putI dX4_append_55 flX4_15 rfl rfl rfl rfl hX.1 ?_
          refine J_aload_n dX4_append_58 rfl rfl ?_
          refine J_getI dX4_append_59 flX4_15 rfl hX.1 ?_
          exact J_iret (ty := .int) hR dX4_append_62 rfl rfl (Nat.le_of_ble_eq_true rfl) (Nat.le_of_ble_eq_true rfl) (jRes_f (by first | (simp only [fX4_append, if_neg h1, if_pos h2, if_neg h3, if_pos h4]; done) | rfl | (simp only [fX4_append, if_neg h1, if_pos h2, if_neg h3, if_pos h4]; rfl)))
        · skip
          refine J_ldc (-2000000003) dX4_append_34 jw_613 ?_
          exact J_iret (ty := .int) hR dX4_append_36 rfl rfl (Nat.le_of_ble_eq_true rfl) (Nat.le_of_ble_eq_true rfl) (jRes_f (by first | (simp only [fX4_append, if_neg h1, if_pos h2, if_neg h3, if_neg h4]; done) | rfl | (simp only [fX4_append, if_neg h1, if_pos h2, if_neg h3, if_neg h4]; rfl)))
    · skip
      refine J_ldc (-2000000001) dX4_append_12 jw_612 ?_
      exact J_iret (ty := .int) hR dX4_append_14 rfl rfl (Nat.le_of_ble_eq_true rfl) (Nat.le_of_ble_eq_true rfl) (jRes_f (by first | (simp only [fX4_append, if_neg h1, if_neg h2]; done) | rfl | (simp only [fX4_append, if_neg h1, if_neg h2]; rfl)))
def fX4_empty (I : jI) (o : Nat) : Int32 × jI :=
  ((I o 1), (jset I o 1 0))
set_option maxRecDepth 100000 in
set_option maxHeartbeats 4000000 in
theorem kX4_empty (S : jX) (I : jI) (o : Nat) (hX : jText S o) : jM (0, 0, 0) mX4_empty [.ref o] S I (jRes (some (.int (fX4_empty I o).1)) S (fX4_empty I o).2) := by
  refine jM.of (ls := [.ref o, .long 0]) (by decide) (Nat.le_of_ble_eq_true rfl) (by intro v hv; simp only [List.mem_cons, List.not_mem_nil, or_false] at hv; rcases hv with rfl <;> rfl) rfl (fun G hR => ?_)
  refine J_aload_n dX4_empty_0 rfl rfl ?_
  refine J_getI dX4_empty_1 flX4_15 rfl hX.1 ?_
  refine J_istore_n dX4_empty_4 (Nat.le_of_ble_eq_true rfl) ?_
  refine J_aload_n dX4_empty_5 rfl rfl ?_
  refine J_iconst (0) dX4_empty_6 rfl ?_
  refine J_putI dX4_empty_7 flX4_15 rfl rfl rfl rfl hX.1 ?_
  refine J_iload_n dX4_empty_10 rfl ?_
  exact J_iret (ty := .int) hR dX4_empty_11 rfl rfl (Nat.le_of_ble_eq_true rfl) (Nat.le_of_ble_eq_true rfl) (jRes_f (by first | (simp only [fX4_empty]; done) | rfl | (simp only [fX4_empty]; rfl)))
def fX4_goToStart (I : jI) (o : Nat) : jI :=
  (jset I o 3 0)
set_option maxRecDepth 100000 in
set_option maxHeartbeats 4000000 in
theorem kX4_goToStart (S : jX) (I : jI) (o : Nat) (hX : jText S o) : jM (0, 0, 0) mX4_goToStart [.ref o] S I (jRes none S (fX4_goToStart I o)) := by
  refine jM.of (ls := [.ref o]) (by decide) (Nat.le_of_ble_eq_true rfl) (by intro v hv; simp only [List.mem_cons, List.not_mem_nil, or_false] at hv; rcases hv with rfl <;> rfl) rfl (fun G hR => ?_)
  refine J_aload_n dX4_goToStart_0 rfl rfl ?_
  refine J_iconst (0) dX4_goToStart_1 rfl ?_
  refine J_putI dX4_goToStart_2 flX4_21 rfl rfl rfl rfl hX.1 ?_
  exact J_vret hR dX4_goToStart_5 rfl (Nat.le_of_ble_eq_true rfl) (Nat.le_of_ble_eq_true rfl) (jRes_v (by first | (simp only [fX4_goToStart]; done) | rfl | (simp only [fX4_goToStart]; rfl)))
def fX4_hasMore (I : jI) (o : Nat) : Int32 :=
  if (I o 1) ≤ (I o 3) then
    0
  else
    1
set_option maxRecDepth 100000 in
set_option maxHeartbeats 4000000 in
theorem kX4_hasMore (S : jX) (I : jI) (o : Nat) (hX : jText S o) : jM (0, 0, 0) mX4_hasMore [.ref o] S I (jRes (some (.int (fX4_hasMore I o))) S I) := by
  refine jM.of (ls := [.ref o]) (by decide) (Nat.le_of_ble_eq_true rfl) (by intro v hv; simp only [List.mem_cons, List.not_mem_nil, or_false] at hv; rcases hv with rfl <;> rfl) rfl (fun G hR => ?_)
  refine J_aload_n dX4_hasMore_0 rfl rfl ?_
  refine J_getI dX4_hasMore_1 flX4_21 rfl hX.1 ?_
  refine J_aload_n dX4_hasMore_4 rfl rfl ?_
  refine J_getI dX4_hasMore_5 flX4_15 rfl hX.1 ?_
  refine J_icmp_ge (tgt := 15) dX4_hasMore_8 (by decide) (fun h1 => ?_) (fun h1 => ?_)
  · skip
    refine J_iconst (0) dX4_hasMore_15 rfl ?_
    exact J_iret (ty := .boolean) hR dX4_hasMore_16 rfl rfl (Nat.le_of_ble_eq_true rfl) (Nat.le_of_ble_eq_true rfl) (jRes_i (by first | (simp only [fX4_hasMore, if_pos h1]; done) | rfl | (simp only [fX4_hasMore, if_pos h1]; rfl)) rfl)
  · skip
    refine J_iconst (1) dX4_hasMore_11 rfl ?_
    refine J_goto (tgt := 16) dX4_hasMore_12 (by decide) ?_
    exact J_iret (ty := .boolean) hR dX4_hasMore_16 rfl rfl (Nat.le_of_ble_eq_true rfl) (Nat.le_of_ble_eq_true rfl) (jRes_i (by first | (simp only [fX4_hasMore, if_neg h1]; done) | rfl | (simp only [fX4_hasMore, if_neg h1]; rfl)) rfl)
def fX4_brokeOffAt (I : jI) (o : Nat) : Int32 :=
  ((I o 3) - (I o 2))
set_option maxRecDepth 100000 in
set_option maxHeartbeats 4000000 in
theorem kX4_brokeOffAt (S : jX) (I : jI) (o : Nat) (hX : jText S o) : jM (0, 0, 0) mX4_brokeOffAt [.ref o] S I (jRes (some (.int (fX4_brokeOffAt I o))) S I) := by
  refine jM.of (ls := [.ref o]) (by decide) (Nat.le_of_ble_eq_true rfl) (by intro v hv; simp only [List.mem_cons, List.not_mem_nil, or_false] at hv; rcases hv with rfl <;> rfl) rfl (fun G hR => ?_)
  refine J_aload_n dX4_brokeOffAt_0 rfl rfl ?_
  refine J_getI dX4_brokeOffAt_1 flX4_21 rfl hX.1 ?_
  refine J_aload_n dX4_brokeOffAt_4 rfl rfl ?_
  refine J_getI dX4_brokeOffAt_5 flX4_24 rfl hX.1 ?_
  refine J_isub dX4_brokeOffAt_8 ?_
  exact J_iret (ty := .int) hR dX4_brokeOffAt_9 rfl rfl (Nat.le_of_ble_eq_true rfl) (Nat.le_of_ble_eq_true rfl) (jRes_i (by first | (simp only [fX4_brokeOffAt]; done) | rfl | (simp only [fX4_brokeOffAt]; rfl)) rfl)
def fX4_signHere (I : jI) (o : Nat) : Int32 :=
  if (I o 3) < 0 then
    (-1)
  else
    if (I o 1) ≤ (I o 3) then
      (-1)
    else
      if 60 ≤ (I o 3) then
        (-1)
      else
        (I (o + 1) ((I o 3)).toNatClampNeg)
set_option maxRecDepth 100000 in
set_option maxHeartbeats 4000000 in
theorem kX4_signHere (S : jX) (I : jI) (o : Nat) (hX : jText S o) : jM (0, 0, 0) mX4_signHere [.ref o] S I (jRes (some (.int (fX4_signHere I o))) S I) := by
  refine jM.of (ls := [.ref o, .long 0]) (by decide) (Nat.le_of_ble_eq_true rfl) (by intro v hv; simp only [List.mem_cons, List.not_mem_nil, or_false] at hv; rcases hv with rfl <;> rfl) rfl (fun G hR => ?_)
  refine J_aload_n dX4_signHere_0 rfl rfl ?_
  refine J_getI dX4_signHere_1 flX4_21 rfl hX.1 ?_
  refine J_if_lt (tgt := 34) dX4_signHere_4 (by decide) (fun h1 => ?_) (fun h1 => ?_)
  · skip
    refine J_iconst (0) dX4_signHere_34 rfl ?_
    refine J_istore_n dX4_signHere_35 (Nat.le_of_ble_eq_true rfl) ?_
    refine J_iload_n dX4_signHere_36 rfl ?_
    refine J_if_eq (tgt := 52) dX4_signHere_37 (by decide) (fun h2 => ?_) (fun h2 => ?_)
    · skip
      refine J_iconst (-1) dX4_signHere_52 rfl ?_
      exact J_iret (ty := .int) hR dX4_signHere_53 rfl rfl (Nat.le_of_ble_eq_true rfl) (Nat.le_of_ble_eq_true rfl) (jRes_i (by first | (simp only [fX4_signHere, if_pos h1]; done) | rfl | (simp only [fX4_signHere, if_pos h1]; rfl)) rfl)
    · skip
      exact absurd h2 (by decide)
  · skip
    refine J_aload_n dX4_signHere_7 rfl rfl ?_
    refine J_getI dX4_signHere_8 flX4_21 rfl hX.1 ?_
    refine J_aload_n dX4_signHere_11 rfl rfl ?_
    refine J_getI dX4_signHere_12 flX4_15 rfl hX.1 ?_
    refine J_icmp_ge (tgt := 34) dX4_signHere_15 (by decide) (fun h3 => ?_) (fun h3 => ?_)
    · skip
      refine J_iconst (0) dX4_signHere_34 rfl ?_
      refine J_istore_n dX4_signHere_35 (Nat.le_of_ble_eq_true rfl) ?_
      refine J_iload_n dX4_signHere_36 rfl ?_
      refine J_if_eq (tgt := 52) dX4_signHere_37 (by decide) (fun h4 => ?_) (fun h4 => ?_)
      · skip
        refine J_iconst (-1) dX4_signHere_52 rfl ?_
        exact J_iret (ty := .int) hR dX4_signHere_53 rfl rfl (Nat.le_of_ble_eq_true rfl) (Nat.le_of_ble_eq_true rfl) (jRes_i (by first | (simp only [fX4_signHere, if_neg h1, if_pos h3]; done) | rfl | (simp only [fX4_signHere, if_neg h1, if_pos h3]; rfl)) rfl)
      · skip
        exact absurd h4 (by decide)
    · skip
      refine J_aload_n dX4_signHere_18 rfl rfl ?_
      refine J_getI dX4_signHere_19 flX4_21 rfl hX.1 ?_
      refine J_aload_n dX4_signHere_22 rfl rfl ?_
      refine J_getR dX4_signHere_23 flX4_9 rfl hX.1 hX.2.1 ?_
      refine J_alen (x := 60) dX4_signHere_26 hX.2.2 ⟨by decide, by decide⟩ rfl ?_
      refine J_icmp_ge (tgt := 34) dX4_signHere_27 (by decide) (fun h5 => ?_) (fun h5 => ?_)
      · skip
        refine J_iconst (0) dX4_signHere_34 rfl ?_
        refine J_istore_n dX4_signHere_35 (Nat.le_of_ble_eq_true rfl) ?_
        refine J_iload_n dX4_signHere_36 rfl ?_
        refine J_if_eq (tgt := 52) dX4_signHere_37 (by decide) (fun h6 => ?_) (fun h6 => ?_)
        · skip
          refine J_iconst (-1) dX4_signHere_52 rfl ?_
          exact J_iret (ty := .int) hR dX4_signHere_53 rfl rfl (Nat.le_of_ble_eq_true rfl) (Nat.le_of_ble_eq_true rfl) (jRes_i (by first | (simp only [fX4_signHere, if_neg h1, if_neg h3, if_pos h5]; done) | rfl | (simp only [fX4_signHere, if_neg h1, if_neg h3, if_pos h5]; rfl)) rfl)
        · skip
          exact absurd h6 (by decide)
      · skip
        refine J_iconst (1) dX4_signHere_30 rfl ?_
        refine J_goto (tgt := 35) dX4_signHere_31 (by decide) ?_
        refine J_istore_n dX4_signHere_35 (Nat.le_of_ble_eq_true rfl) ?_
        refine J_iload_n dX4_signHere_36 rfl ?_
        refine J_if_eq (tgt := 52) dX4_signHere_37 (by decide) (fun h7 => ?_) (fun h7 => ?_)
        · skip
          exact absurd h7 (by decide)
        · skip
          refine J_aload_n dX4_signHere_40 rfl rfl ?_
          refine J_getR dX4_signHere_41 flX4_9 rfl hX.1 hX.2.1 ?_
          refine J_aload_n dX4_signHere_44 rfl rfl ?_
          refine J_getI dX4_signHere_45 flX4_21 rfl hX.1 ?_
          refine J_caload dX4_signHere_48 hX.2.2 (jvp_60 (by assumption) (by assumption)) ?_
          refine J_goto (tgt := 53) dX4_signHere_49 (by decide) ?_
          exact J_iret (ty := .int) hR dX4_signHere_53 rfl rfl (Nat.le_of_ble_eq_true rfl) (Nat.le_of_ble_eq_true rfl) (jRes_i (by first | (simp only [fX4_signHere, if_neg h1, if_neg h3, if_neg h5]; done) | rfl | (simp only [fX4_signHere, if_neg h1, if_neg h3, if_neg h5]; rfl)) rfl)
def fX4_readKind (I : jI) (o : Nat) : Int32 × jI :=
  if (fX4_signHere I o) = 98 then
    (1, (jset (jset I o 4 (((fX4_signHere I o).toUInt32 % 65536).toInt32)) o 3 (((jset I o 4 (((fX4_signHere I o).toUInt32 % 65536).toInt32)) o 3) + 1)))
  else
    if (fX4_signHere I o) = 102 then
      (1, (jset (jset I o 4 (((fX4_signHere I o).toUInt32 % 65536).toInt32)) o 3 (((jset I o 4 (((fX4_signHere I o).toUInt32 % 65536).toInt32)) o 3) + 1)))
    else
      if (fX4_signHere I o) = 105 then
        (1, (jset (jset I o 4 (((fX4_signHere I o).toUInt32 % 65536).toInt32)) o 3 (((jset I o 4 (((fX4_signHere I o).toUInt32 % 65536).toInt32)) o 3) + 1)))
      else
        if (fX4_signHere I o) = 111 then
          (1, (jset (jset I o 4 (((fX4_signHere I o).toUInt32 % 65536).toInt32)) o 3 (((jset I o 4 (((fX4_signHere I o).toUInt32 % 65536).toInt32)) o 3) + 1)))
        else
          if (fX4_signHere I o) = 114 then
            (1, (jset (jset I o 4 (((fX4_signHere I o).toUInt32 % 65536).toInt32)) o 3 (((jset I o 4 (((fX4_signHere I o).toUInt32 % 65536).toInt32)) o 3) + 1)))
          else
            if (fX4_signHere I o) = 119 then
              (1, (jset (jset I o 4 (((fX4_signHere I o).toUInt32 % 65536).toInt32)) o 3 (((jset I o 4 (((fX4_signHere I o).toUInt32 % 65536).toInt32)) o 3) + 1)))
            else
              (0, I)
set_option maxRecDepth 100000 in
set_option maxHeartbeats 4000000 in
theorem kX4_readKind (S : jX) (I : jI) (o : Nat) (hX : jText S o) : jM (1, 0, 0) mX4_readKind [.ref o] S I (jRes (some (.int (fX4_readKind I o).1)) S (fX4_readKind I o).2) := by
  refine jM.of (ls := [.ref o, .long 0]) (by decide) (Nat.le_of_ble_eq_true rfl) (by intro v hv; simp only [List.mem_cons, List.not_mem_nil, or_false] at hv; rcases hv with rfl <;> rfl) rfl (fun G hR => ?_)
  refine J_aload_n dX4_readKind_0 rfl rfl ?_
  refine J_cV0r (mc := mX4_signHere) hX.1 (by decide) rfl dX4_readKind_1 mlX4_49 okX4_signHere (kX4_signHere S I o hX) (Nat.le_of_ble_eq_true rfl) (Nat.le_of_ble_eq_true rfl) (Nat.le_of_ble_eq_true rfl) (Nat.le_of_ble_eq_true rfl) ?_
  refine J_istore_n dX4_readKind_4 (Nat.le_of_ble_eq_true rfl) ?_
  refine J_iload_n dX4_readKind_5 rfl ?_
  by_cases h1 : (fX4_signHere I o) = 98
  · skip
    refine J_look (off := 58) (tgt := 64) dX4_readKind_6 (by decide) (by rw [h1]; rfl) (by decide) ?_
    refine J_aload_n dX4_readKind_64 rfl rfl ?_
    refine J_iload_n dX4_readKind_65 rfl ?_
    refine J_i2c dX4_readKind_66 ?_
    refine J_putI dX4_readKind_67 flX4_41 rfl rfl (pk_nc _) (pk_fc _) hX.1 ?_
    refine J_aload_n dX4_readKind_70 rfl rfl ?_
    refine J_dup dX4_readKind_71 rfl ?_
    refine J_getI dX4_readKind_72 flX4_21 rfl hX.1 ?_
    refine J_iconst (1) dX4_readKind_75 rfl ?_
    refine J_iadd dX4_readKind_76 ?_
    refine J_putI dX4_readKind_77 flX4_21 rfl rfl rfl rfl hX.1 ?_
    refine J_iconst (1) dX4_readKind_80 rfl ?_
    exact J_iret (ty := .boolean) hR dX4_readKind_81 rfl rfl (Nat.le_of_ble_eq_true rfl) (Nat.le_of_ble_eq_true rfl) (jRes_f (by first | (simp only [fX4_readKind, if_pos h1]; done) | rfl | (simp only [fX4_readKind, if_pos h1]; rfl)))
  by_cases h2 : (fX4_signHere I o) = 102
  · skip
    refine J_look (off := 58) (tgt := 64) dX4_readKind_6 (by decide) (by rw [h2]; rfl) (by decide) ?_
    refine J_aload_n dX4_readKind_64 rfl rfl ?_
    refine J_iload_n dX4_readKind_65 rfl ?_
    refine J_i2c dX4_readKind_66 ?_
    refine J_putI dX4_readKind_67 flX4_41 rfl rfl (pk_nc _) (pk_fc _) hX.1 ?_
    refine J_aload_n dX4_readKind_70 rfl rfl ?_
    refine J_dup dX4_readKind_71 rfl ?_
    refine J_getI dX4_readKind_72 flX4_21 rfl hX.1 ?_
    refine J_iconst (1) dX4_readKind_75 rfl ?_
    refine J_iadd dX4_readKind_76 ?_
    refine J_putI dX4_readKind_77 flX4_21 rfl rfl rfl rfl hX.1 ?_
    refine J_iconst (1) dX4_readKind_80 rfl ?_
    exact J_iret (ty := .boolean) hR dX4_readKind_81 rfl rfl (Nat.le_of_ble_eq_true rfl) (Nat.le_of_ble_eq_true rfl) (jRes_f (by first | (simp only [fX4_readKind, if_neg h1, if_pos h2]; done) | rfl | (simp only [fX4_readKind, if_neg h1, if_pos h2]; rfl)))
  by_cases h3 : (fX4_signHere I o) = 105
  · skip
    refine J_look (off := 58) (tgt := 64) dX4_readKind_6 (by decide) (by rw [h3]; rfl) (by decide) ?_
    refine J_aload_n dX4_readKind_64 rfl rfl ?_
    refine J_iload_n dX4_readKind_65 rfl ?_
    refine J_i2c dX4_readKind_66 ?_
    refine J_putI dX4_readKind_67 flX4_41 rfl rfl (pk_nc _) (pk_fc _) hX.1 ?_
    refine J_aload_n dX4_readKind_70 rfl rfl ?_
    refine J_dup dX4_readKind_71 rfl ?_
    refine J_getI dX4_readKind_72 flX4_21 rfl hX.1 ?_
    refine J_iconst (1) dX4_readKind_75 rfl ?_
    refine J_iadd dX4_readKind_76 ?_
    refine J_putI dX4_readKind_77 flX4_21 rfl rfl rfl rfl hX.1 ?_
    refine J_iconst (1) dX4_readKind_80 rfl ?_
    exact J_iret (ty := .boolean) hR dX4_readKind_81 rfl rfl (Nat.le_of_ble_eq_true rfl) (Nat.le_of_ble_eq_true rfl) (jRes_f (by first | (simp only [fX4_readKind, if_neg h1, if_neg h2, if_pos h3]; done) | rfl | (simp only [fX4_readKind, if_neg h1, if_neg h2, if_pos h3]; rfl)))
  by_cases h4 : (fX4_signHere I o) = 111
  · skip
    refine J_look (off := 58) (tgt := 64) dX4_readKind_6 (by decide) (by rw [h4]; rfl) (by decide) ?_
    refine J_aload_n dX4_readKind_64 rfl rfl ?_
    refine J_iload_n dX4_readKind_65 rfl ?_
    refine J_i2c dX4_readKind_66 ?_
    refine J_putI dX4_readKind_67 flX4_41 rfl rfl (pk_nc _) (pk_fc _) hX.1 ?_
    refine J_aload_n dX4_readKind_70 rfl rfl ?_
    refine J_dup dX4_readKind_71 rfl ?_
    refine J_getI dX4_readKind_72 flX4_21 rfl hX.1 ?_
    refine J_iconst (1) dX4_readKind_75 rfl ?_
    refine J_iadd dX4_readKind_76 ?_
    refine J_putI dX4_readKind_77 flX4_21 rfl rfl rfl rfl hX.1 ?_
    refine J_iconst (1) dX4_readKind_80 rfl ?_
    exact J_iret (ty := .boolean) hR dX4_readKind_81 rfl rfl (Nat.le_of_ble_eq_true rfl) (Nat.le_of_ble_eq_true rfl) (jRes_f (by first | (simp only [fX4_readKind, if_neg h1, if_neg h2, if_neg h3, if_pos h4]; done) | rfl | (simp only [fX4_readKind, if_neg h1, if_neg h2, if_neg h3, if_pos h4]; rfl)))
  by_cases h5 : (fX4_signHere I o) = 114
  · skip
    refine J_look (off := 58) (tgt := 64) dX4_readKind_6 (by decide) (by rw [h5]; rfl) (by decide) ?_
    refine J_aload_n dX4_readKind_64 rfl rfl ?_
    refine J_iload_n dX4_readKind_65 rfl ?_
    refine J_i2c dX4_readKind_66 ?_
    refine J_putI dX4_readKind_67 flX4_41 rfl rfl (pk_nc _) (pk_fc _) hX.1 ?_
    refine J_aload_n dX4_readKind_70 rfl rfl ?_
    refine J_dup dX4_readKind_71 rfl ?_
    refine J_getI dX4_readKind_72 flX4_21 rfl hX.1 ?_
    refine J_iconst (1) dX4_readKind_75 rfl ?_
    refine J_iadd dX4_readKind_76 ?_
    refine J_putI dX4_readKind_77 flX4_21 rfl rfl rfl rfl hX.1 ?_
    refine J_iconst (1) dX4_readKind_80 rfl ?_
    exact J_iret (ty := .boolean) hR dX4_readKind_81 rfl rfl (Nat.le_of_ble_eq_true rfl) (Nat.le_of_ble_eq_true rfl) (jRes_f (by first | (simp only [fX4_readKind, if_neg h1, if_neg h2, if_neg h3, if_neg h4, if_pos h5]; done) | rfl | (simp only [fX4_readKind, if_neg h1, if_neg h2, if_neg h3, if_neg h4, if_pos h5]; rfl)))
  by_cases h6 : (fX4_signHere I o) = 119
  · skip
    refine J_look (off := 58) (tgt := 64) dX4_readKind_6 (by decide) (by rw [h6]; rfl) (by decide) ?_
    refine J_aload_n dX4_readKind_64 rfl rfl ?_
    refine J_iload_n dX4_readKind_65 rfl ?_
    refine J_i2c dX4_readKind_66 ?_
    refine J_putI dX4_readKind_67 flX4_41 rfl rfl (pk_nc _) (pk_fc _) hX.1 ?_
    refine J_aload_n dX4_readKind_70 rfl rfl ?_
    refine J_dup dX4_readKind_71 rfl ?_
    refine J_getI dX4_readKind_72 flX4_21 rfl hX.1 ?_
    refine J_iconst (1) dX4_readKind_75 rfl ?_
    refine J_iadd dX4_readKind_76 ?_
    refine J_putI dX4_readKind_77 flX4_21 rfl rfl rfl rfl hX.1 ?_
    refine J_iconst (1) dX4_readKind_80 rfl ?_
    exact J_iret (ty := .boolean) hR dX4_readKind_81 rfl rfl (Nat.le_of_ble_eq_true rfl) (Nat.le_of_ble_eq_true rfl) (jRes_f (by first | (simp only [fX4_readKind, if_neg h1, if_neg h2, if_neg h3, if_neg h4, if_neg h5, if_pos h6]; done) | rfl | (simp only [fX4_readKind, if_neg h1, if_neg h2, if_neg h3, if_neg h4, if_neg h5, if_pos h6]; rfl)))
  refine J_look (off := 76) (tgt := 82) dX4_readKind_6 (by decide) (by show Op.lookupswitch.offset [(98, 58), (102, 58), (105, 58), (111, 58), (114, 58), (119, 58)] (76) ((fX4_signHere I o)).toInt = 76; rw [lv_osw h1 (a := 98) rfl, lv_osw h2 (a := 102) rfl, lv_osw h3 (a := 105) rfl, lv_osw h4 (a := 111) rfl, lv_osw h5 (a := 114) rfl, lv_osw h6 (a := 119) rfl]; rfl) (by decide) ?_
  refine J_iconst (0) dX4_readKind_82 rfl ?_
  exact J_iret (ty := .boolean) hR dX4_readKind_83 rfl rfl (Nat.le_of_ble_eq_true rfl) (Nat.le_of_ble_eq_true rfl) (jRes_f (by first | (simp only [fX4_readKind, if_neg h1, if_neg h2, if_neg h3, if_neg h4, if_neg h5, if_neg h6]; done) | rfl | (simp only [fX4_readKind, if_neg h1, if_neg h2, if_neg h3, if_neg h4, if_neg h5, if_neg h6]; rfl)))
def fX4_readSign (I : jI) (o : Nat) (x : Int32) : Int32 × jI :=
  if (fX4_signHere I o) = x then
    (1, (jset I o 3 ((I o 3) + 1)))
  else
    (0, I)
set_option maxRecDepth 100000 in
set_option maxHeartbeats 4000000 in
theorem kX4_readSign (S : jX) (I : jI) (o : Nat) (x : Int32) (hX : jText S o) : jM (1, 0, 0) mX4_readSign [.ref o, .int x] S I (jRes (some (.int (fX4_readSign I o x).1)) S (fX4_readSign I o x).2) := by
  refine jM.of (ls := [.ref o, .int x]) (by decide) (Nat.le_of_ble_eq_true rfl) (by intro v hv; simp only [List.mem_cons, List.not_mem_nil, or_false] at hv; rcases hv with rfl | rfl <;> rfl) rfl (fun G hR => ?_)
  refine J_aload_n dX4_readSign_0 rfl rfl ?_
  refine J_cV0r (mc := mX4_signHere) hX.1 (by decide) rfl dX4_readSign_1 mlX4_49 okX4_signHere (kX4_signHere S I o hX) (Nat.le_of_ble_eq_true rfl) (Nat.le_of_ble_eq_true rfl) (Nat.le_of_ble_eq_true rfl) (Nat.le_of_ble_eq_true rfl) ?_
  refine J_iload_n dX4_readSign_4 rfl ?_
  refine J_icmp_eq (tgt := 10) dX4_readSign_5 (by decide) (fun h1 => ?_) (fun h1 => ?_)
  · skip
    refine J_aload_n dX4_readSign_10 rfl rfl ?_
    refine J_dup dX4_readSign_11 rfl ?_
    refine J_getI dX4_readSign_12 flX4_21 rfl hX.1 ?_
    refine J_iconst (1) dX4_readSign_15 rfl ?_
    refine J_iadd dX4_readSign_16 ?_
    refine J_putI dX4_readSign_17 flX4_21 rfl rfl rfl rfl hX.1 ?_
    refine J_iconst (1) dX4_readSign_20 rfl ?_
    exact J_iret (ty := .boolean) hR dX4_readSign_21 rfl rfl (Nat.le_of_ble_eq_true rfl) (Nat.le_of_ble_eq_true rfl) (jRes_f (by first | (simp only [fX4_readSign, if_pos h1]; done) | rfl | (simp only [fX4_readSign, if_pos h1]; rfl)))
  · skip
    refine J_iconst (0) dX4_readSign_8 rfl ?_
    exact J_iret (ty := .boolean) hR dX4_readSign_9 rfl rfl (Nat.le_of_ble_eq_true rfl) (Nat.le_of_ble_eq_true rfl) (jRes_f (by first | (simp only [fX4_readSign, if_neg h1]; done) | rfl | (simp only [fX4_readSign, if_neg h1]; rfl)))
theorem jrsB {I : jI} {o : Nat} {x : Int32} : (fX4_readSign I o x).1 = 0 ∨ (fX4_readSign I o x).1 = 1 := by
  unfold fX4_readSign
  split
  · exact Or.inr rfl
  · exact Or.inl rfl
def fX4_readDigit (I : jI) (o : Nat) : Int32 × jI :=
  if (fX4_signHere I o) < 48 then
    ((-1), I)
  else
    if (fX4_signHere I o) ≤ 57 then
      (((fX4_signHere I o) - 48), (jset I o 3 ((I o 3) + 1)))
    else
      ((-1), I)
set_option maxRecDepth 100000 in
set_option maxHeartbeats 4000000 in
theorem kX4_readDigit (S : jX) (I : jI) (o : Nat) (hX : jText S o) : jM (1, 0, 0) mX4_readDigit [.ref o] S I (jRes (some (.int (fX4_readDigit I o).1)) S (fX4_readDigit I o).2) := by
  refine jM.of (ls := [.ref o, .long 0]) (by decide) (Nat.le_of_ble_eq_true rfl) (by intro v hv; simp only [List.mem_cons, List.not_mem_nil, or_false] at hv; rcases hv with rfl <;> rfl) rfl (fun G hR => ?_)
  refine J_aload_n dX4_readDigit_0 rfl rfl ?_
  refine J_cV0r (mc := mX4_signHere) hX.1 (by decide) rfl dX4_readDigit_1 mlX4_49 okX4_signHere (kX4_signHere S I o hX) (Nat.le_of_ble_eq_true rfl) (Nat.le_of_ble_eq_true rfl) (Nat.le_of_ble_eq_true rfl) (Nat.le_of_ble_eq_true rfl) ?_
  refine J_istore_n dX4_readDigit_4 (Nat.le_of_ble_eq_true rfl) ?_
  refine J_iload_n dX4_readDigit_5 rfl ?_
  refine J_bipush (48) dX4_readDigit_6 rfl ?_
  refine J_icmp_lt (tgt := 17) dX4_readDigit_8 (by decide) (fun h1 => ?_) (fun h1 => ?_)
  · skip
    refine J_iconst (-1) dX4_readDigit_17 rfl ?_
    exact J_iret (ty := .int) hR dX4_readDigit_18 rfl rfl (Nat.le_of_ble_eq_true rfl) (Nat.le_of_ble_eq_true rfl) (jRes_f (by first | (simp only [fX4_readDigit, if_pos h1]; done) | rfl | (simp only [fX4_readDigit, if_pos h1]; rfl)))
  · skip
    refine J_iload_n dX4_readDigit_11 rfl ?_
    refine J_bipush (57) dX4_readDigit_12 rfl ?_
    refine J_icmp_le (tgt := 19) dX4_readDigit_14 (by decide) (fun h2 => ?_) (fun h2 => ?_)
    · skip
      refine J_aload_n dX4_readDigit_19 rfl rfl ?_
      refine J_dup dX4_readDigit_20 rfl ?_
      refine J_getI dX4_readDigit_21 flX4_21 rfl hX.1 ?_
      refine J_iconst (1) dX4_readDigit_24 rfl ?_
      refine J_iadd dX4_readDigit_25 ?_
      refine J_putI dX4_readDigit_26 flX4_21 rfl rfl rfl rfl hX.1 ?_
      refine J_iload_n dX4_readDigit_29 rfl ?_
      refine J_bipush (48) dX4_readDigit_30 rfl ?_
      refine J_isub dX4_readDigit_32 ?_
      exact J_iret (ty := .int) hR dX4_readDigit_33 rfl rfl (Nat.le_of_ble_eq_true rfl) (Nat.le_of_ble_eq_true rfl) (jRes_f (by first | (simp only [fX4_readDigit, if_neg h1, if_pos h2]; done) | rfl | (simp only [fX4_readDigit, if_neg h1, if_pos h2]; rfl)))
    · skip
      refine J_iconst (-1) dX4_readDigit_17 rfl ?_
      exact J_iret (ty := .int) hR dX4_readDigit_18 rfl rfl (Nat.le_of_ble_eq_true rfl) (Nat.le_of_ble_eq_true rfl) (jRes_f (by first | (simp only [fX4_readDigit, if_neg h1, if_neg h2]; done) | rfl | (simp only [fX4_readDigit, if_neg h1, if_neg h2]; rfl)))
def fX4_readNumber (I : jI) (o : Nat) : Int32 × jI :=
  if (fX4_readDigit I o).1 = (-1) then
    ((-1), (fX4_readDigit I o).2)
  else
    if (fX4_readDigit ((fX4_readDigit I o).2) o).1 = (-1) then
      ((fX4_readDigit I o).1, (fX4_readDigit ((fX4_readDigit I o).2) o).2)
    else
      ((((fX4_readDigit I o).1 * 10) + (fX4_readDigit ((fX4_readDigit I o).2) o).1), (fX4_readDigit ((fX4_readDigit I o).2) o).2)
set_option maxRecDepth 100000 in
set_option maxHeartbeats 4000000 in
theorem kX4_readNumber (S : jX) (I : jI) (o : Nat) (hX : jText S o) : jM (2, 0, 0) mX4_readNumber [.ref o] S I (jRes (some (.int (fX4_readNumber I o).1)) S (fX4_readNumber I o).2) := by
  refine jM.of (ls := [.ref o, .long 0, .long 0]) (by decide) (Nat.le_of_ble_eq_true rfl) (by intro v hv; simp only [List.mem_cons, List.not_mem_nil, or_false] at hv; rcases hv with rfl <;> rfl) rfl (fun G hR => ?_)
  refine J_aload_n dX4_readNumber_0 rfl rfl ?_
  refine J_cV0r (mc := mX4_readDigit) hX.1 (by decide) rfl dX4_readNumber_1 mlX4_52 okX4_readDigit (kX4_readDigit S I o hX) (Nat.le_of_ble_eq_true rfl) (Nat.le_of_ble_eq_true rfl) (Nat.le_of_ble_eq_true rfl) (Nat.le_of_ble_eq_true rfl) ?_
  refine J_istore_n dX4_readNumber_4 (Nat.le_of_ble_eq_true rfl) ?_
  refine J_iload_n dX4_readNumber_5 rfl ?_
  refine J_iconst (-1) dX4_readNumber_6 rfl ?_
  refine J_icmp_ne (tgt := 12) dX4_readNumber_7 (by decide) (fun h1 => ?_) (fun h1 => ?_)
  · skip
    refine J_aload_n dX4_readNumber_12 rfl rfl ?_
    refine J_cV0r (mc := mX4_readDigit) hX.1 (by decide) rfl dX4_readNumber_13 mlX4_52 okX4_readDigit (kX4_readDigit S ((fX4_readDigit I o).2) o hX) (Nat.le_of_ble_eq_true rfl) (Nat.le_of_ble_eq_true rfl) (Nat.le_of_ble_eq_true rfl) (Nat.le_of_ble_eq_true rfl) ?_
    refine J_istore_n dX4_readNumber_16 (Nat.le_of_ble_eq_true rfl) ?_
    refine J_iload_n dX4_readNumber_17 rfl ?_
    refine J_iconst (-1) dX4_readNumber_18 rfl ?_
    refine J_icmp_ne (tgt := 26) dX4_readNumber_19 (by decide) (fun h2 => ?_) (fun h2 => ?_)
    · skip
      refine J_iload_n dX4_readNumber_26 rfl ?_
      refine J_bipush (10) dX4_readNumber_27 rfl ?_
      refine J_imul dX4_readNumber_29 ?_
      refine J_iload_n dX4_readNumber_30 rfl ?_
      refine J_iadd dX4_readNumber_31 ?_
      exact J_iret (ty := .int) hR dX4_readNumber_32 rfl rfl (Nat.le_of_ble_eq_true rfl) (Nat.le_of_ble_eq_true rfl) (jRes_f (by first | (simp only [fX4_readNumber, if_neg h1, if_neg h2]; done) | rfl | (simp only [fX4_readNumber, if_neg h1, if_neg h2]; rfl)))
    · skip
      refine J_iload_n dX4_readNumber_22 rfl ?_
      refine J_goto (tgt := 32) dX4_readNumber_23 (by decide) ?_
      exact J_iret (ty := .int) hR dX4_readNumber_32 rfl rfl (Nat.le_of_ble_eq_true rfl) (Nat.le_of_ble_eq_true rfl) (jRes_f (by first | (simp only [fX4_readNumber, if_neg h1, if_pos h2]; done) | rfl | (simp only [fX4_readNumber, if_neg h1, if_pos h2]; rfl)))
  · skip
    refine J_iconst (-1) dX4_readNumber_10 rfl ?_
    exact J_iret (ty := .int) hR dX4_readNumber_11 rfl rfl (Nat.le_of_ble_eq_true rfl) (Nat.le_of_ble_eq_true rfl) (jRes_f (by first | (simp only [fX4_readNumber, if_pos h1]; done) | rfl | (simp only [fX4_readNumber, if_pos h1]; rfl)))
def fX4_readOrder (I : jI) (o : Nat) : Int32 × jI :=
  if (fX4_readKind (jset I o 2 (I o 3)) o).1 = 0 then
    (0, (fX4_readKind (jset I o 2 (I o 3)) o).2)
  else
    if ((jset ((fX4_readNumber ((fX4_readKind (jset I o 2 (I o 3)) o).2) o).2) o 5 ((fX4_readNumber ((fX4_readKind (jset I o 2 (I o 3)) o).2) o).1)) o 5) = (-1) then
      (0, (jset ((fX4_readNumber ((fX4_readKind (jset I o 2 (I o 3)) o).2) o).2) o 5 ((fX4_readNumber ((fX4_readKind (jset I o 2 (I o 3)) o).2) o).1)))
    else
      if ((jset (jset ((fX4_readNumber ((fX4_readKind (jset I o 2 (I o 3)) o).2) o).2) o 5 ((fX4_readNumber ((fX4_readKind (jset I o 2 (I o 3)) o).2) o).1)) o 6 0) o 4) = 105 then
        if (fX4_readSign (jset (jset ((fX4_readNumber ((fX4_readKind (jset I o 2 (I o 3)) o).2) o).2) o 5 ((fX4_readNumber ((fX4_readKind (jset I o 2 (I o 3)) o).2) o).1)) o 6 0) o 44).1 = 0 then
          (0, (fX4_readSign (jset (jset ((fX4_readNumber ((fX4_readKind (jset I o 2 (I o 3)) o).2) o).2) o 5 ((fX4_readNumber ((fX4_readKind (jset I o 2 (I o 3)) o).2) o).1)) o 6 0) o 44).2)
        else
          if ((jset ((fX4_readNumber ((fX4_readSign (jset (jset ((fX4_readNumber ((fX4_readKind (jset I o 2 (I o 3)) o).2) o).2) o 5 ((fX4_readNumber ((fX4_readKind (jset I o 2 (I o 3)) o).2) o).1)) o 6 0) o 44).2) o).2) o 6 ((fX4_readNumber ((fX4_readSign (jset (jset ((fX4_readNumber ((fX4_readKind (jset I o 2 (I o 3)) o).2) o).2) o 5 ((fX4_readNumber ((fX4_readKind (jset I o 2 (I o 3)) o).2) o).1)) o 6 0) o 44).2) o).1)) o 6) = (-1) then
            (0, (jset ((fX4_readNumber ((fX4_readSign (jset (jset ((fX4_readNumber ((fX4_readKind (jset I o 2 (I o 3)) o).2) o).2) o 5 ((fX4_readNumber ((fX4_readKind (jset I o 2 (I o 3)) o).2) o).1)) o 6 0) o 44).2) o).2) o 6 ((fX4_readNumber ((fX4_readSign (jset (jset ((fX4_readNumber ((fX4_readKind (jset I o 2 (I o 3)) o).2) o).2) o 5 ((fX4_readNumber ((fX4_readKind (jset I o 2 (I o 3)) o).2) o).1)) o 6 0) o 44).2) o).1)))
          else
            ((fX4_readSign (jset ((fX4_readNumber ((fX4_readSign (jset (jset ((fX4_readNumber ((fX4_readKind (jset I o 2 (I o 3)) o).2) o).2) o 5 ((fX4_readNumber ((fX4_readKind (jset I o 2 (I o 3)) o).2) o).1)) o 6 0) o 44).2) o).2) o 6 ((fX4_readNumber ((fX4_readSign (jset (jset ((fX4_readNumber ((fX4_readKind (jset I o 2 (I o 3)) o).2) o).2) o 5 ((fX4_readNumber ((fX4_readKind (jset I o 2 (I o 3)) o).2) o).1)) o 6 0) o 44).2) o).1)) o 59).1, (fX4_readSign (jset ((fX4_readNumber ((fX4_readSign (jset (jset ((fX4_readNumber ((fX4_readKind (jset I o 2 (I o 3)) o).2) o).2) o 5 ((fX4_readNumber ((fX4_readKind (jset I o 2 (I o 3)) o).2) o).1)) o 6 0) o 44).2) o).2) o 6 ((fX4_readNumber ((fX4_readSign (jset (jset ((fX4_readNumber ((fX4_readKind (jset I o 2 (I o 3)) o).2) o).2) o 5 ((fX4_readNumber ((fX4_readKind (jset I o 2 (I o 3)) o).2) o).1)) o 6 0) o 44).2) o).1)) o 59).2)
      else
        ((fX4_readSign (jset (jset ((fX4_readNumber ((fX4_readKind (jset I o 2 (I o 3)) o).2) o).2) o 5 ((fX4_readNumber ((fX4_readKind (jset I o 2 (I o 3)) o).2) o).1)) o 6 0) o 59).1, (fX4_readSign (jset (jset ((fX4_readNumber ((fX4_readKind (jset I o 2 (I o 3)) o).2) o).2) o 5 ((fX4_readNumber ((fX4_readKind (jset I o 2 (I o 3)) o).2) o).1)) o 6 0) o 59).2)
set_option maxRecDepth 100000 in
set_option maxHeartbeats 4000000 in
theorem kX4_readOrder (S : jX) (I : jI) (o : Nat) (hX : jText S o) : jM (3, 0, 0) mX4_readOrder [.ref o] S I (jRes (some (.int (fX4_readOrder I o).1)) S (fX4_readOrder I o).2) := by
  refine jM.of (ls := [.ref o]) (by decide) (Nat.le_of_ble_eq_true rfl) (by intro v hv; simp only [List.mem_cons, List.not_mem_nil, or_false] at hv; rcases hv with rfl <;> rfl) rfl (fun G hR => ?_)
  refine J_aload_n dX4_readOrder_0 rfl rfl ?_
  refine J_aload_n dX4_readOrder_1 rfl rfl ?_
  refine J_getI dX4_readOrder_2 flX4_21 rfl hX.1 ?_
  refine J_putI dX4_readOrder_5 flX4_24 rfl rfl rfl rfl hX.1 ?_
  refine J_aload_n dX4_readOrder_8 rfl rfl ?_
  refine J_cV0r (mc := mX4_readKind) hX.1 (by decide) rfl dX4_readOrder_9 mlX4_27 okX4_readKind (kX4_readKind S (jset I o 2 (I o 3)) o hX) (Nat.le_of_ble_eq_true rfl) (Nat.le_of_ble_eq_true rfl) (Nat.le_of_ble_eq_true rfl) (Nat.le_of_ble_eq_true rfl) ?_
  refine J_if_ne (tgt := 17) dX4_readOrder_12 (by decide) (fun h1 => ?_) (fun h1 => ?_)
  · skip
    refine J_aload_n dX4_readOrder_17 rfl rfl ?_
    refine J_aload_n dX4_readOrder_18 rfl rfl ?_
    refine J_cV0r (mc := mX4_readNumber) hX.1 (by decide) rfl dX4_readOrder_19 mlX4_31 okX4_readNumber (kX4_readNumber S ((fX4_readKind (jset I o 2 (I o 3)) o).2) o hX) (Nat.le_of_ble_eq_true rfl) (Nat.le_of_ble_eq_true rfl) (Nat.le_of_ble_eq_true rfl) (Nat.le_of_ble_eq_true rfl) ?_
    refine J_putI dX4_readOrder_22 flX4_35 rfl rfl rfl rfl hX.1 ?_
    refine J_aload_n dX4_readOrder_25 rfl rfl ?_
    refine J_getI dX4_readOrder_26 flX4_35 rfl hX.1 ?_
    refine J_iconst (-1) dX4_readOrder_29 rfl ?_
    refine J_icmp_ne (tgt := 35) dX4_readOrder_30 (by decide) (fun h2 => ?_) (fun h2 => ?_)
    · skip
      refine J_aload_n dX4_readOrder_35 rfl rfl ?_
      refine J_iconst (0) dX4_readOrder_36 rfl ?_
      refine J_putI dX4_readOrder_37 flX4_38 rfl rfl rfl rfl hX.1 ?_
      refine J_aload_n dX4_readOrder_40 rfl rfl ?_
      refine J_getI dX4_readOrder_41 flX4_41 rfl hX.1 ?_
      refine J_bipush (105) dX4_readOrder_44 rfl ?_
      refine J_icmp_ne (tgt := 78) dX4_readOrder_46 (by decide) (fun h3 => ?_) (fun h3 => ?_)
      · skip
        refine J_aload_n dX4_readOrder_78 rfl rfl ?_
        refine J_bipush (59) dX4_readOrder_79 rfl ?_
        refine J_cV1r (mc := mX4_readSign) hX.1 (by decide) rfl dX4_readOrder_81 mlX4_45 okX4_readSign (kX4_readSign S (jset (jset ((fX4_readNumber ((fX4_readKind (jset I o 2 (I o 3)) o).2) o).2) o 5 ((fX4_readNumber ((fX4_readKind (jset I o 2 (I o 3)) o).2) o).1)) o 6 0) o 59 hX) (Nat.le_of_ble_eq_true rfl) (Nat.le_of_ble_eq_true rfl) (Nat.le_of_ble_eq_true rfl) (Nat.le_of_ble_eq_true rfl) ?_
        exact J_iret (ty := .boolean) hR dX4_readOrder_84 rfl (jBn jrsB) (Nat.le_of_ble_eq_true rfl) (Nat.le_of_ble_eq_true rfl) (jRes_f (by first | (simp only [fX4_readOrder, if_neg h1, if_neg h2, if_neg h3]; done) | rfl | (simp only [fX4_readOrder, if_neg h1, if_neg h2, if_neg h3]; rfl)))
      · skip
        refine J_aload_n dX4_readOrder_49 rfl rfl ?_
        refine J_bipush (44) dX4_readOrder_50 rfl ?_
        refine J_cV1r (mc := mX4_readSign) hX.1 (by decide) rfl dX4_readOrder_52 mlX4_45 okX4_readSign (kX4_readSign S (jset (jset ((fX4_readNumber ((fX4_readKind (jset I o 2 (I o 3)) o).2) o).2) o 5 ((fX4_readNumber ((fX4_readKind (jset I o 2 (I o 3)) o).2) o).1)) o 6 0) o 44 hX) (Nat.le_of_ble_eq_true rfl) (Nat.le_of_ble_eq_true rfl) (Nat.le_of_ble_eq_true rfl) (Nat.le_of_ble_eq_true rfl) ?_
        refine J_if_ne (tgt := 60) dX4_readOrder_55 (by decide) (fun h4 => ?_) (fun h4 => ?_)
        · skip
          refine J_aload_n dX4_readOrder_60 rfl rfl ?_
          refine J_aload_n dX4_readOrder_61 rfl rfl ?_
          refine J_cV0r (mc := mX4_readNumber) hX.1 (by decide) rfl dX4_readOrder_62 mlX4_31 okX4_readNumber (kX4_readNumber S ((fX4_readSign (jset (jset ((fX4_readNumber ((fX4_readKind (jset I o 2 (I o 3)) o).2) o).2) o 5 ((fX4_readNumber ((fX4_readKind (jset I o 2 (I o 3)) o).2) o).1)) o 6 0) o 44).2) o hX) (Nat.le_of_ble_eq_true rfl) (Nat.le_of_ble_eq_true rfl) (Nat.le_of_ble_eq_true rfl) (Nat.le_of_ble_eq_true rfl) ?_
          refine J_putI dX4_readOrder_65 flX4_38 rfl rfl rfl rfl hX.1 ?_
          refine J_aload_n dX4_readOrder_68 rfl rfl ?_
          refine J_getI dX4_readOrder_69 flX4_38 rfl hX.1 ?_
          refine J_iconst (-1) dX4_readOrder_72 rfl ?_
          refine J_icmp_ne (tgt := 78) dX4_readOrder_73 (by decide) (fun h5 => ?_) (fun h5 => ?_)
          · skip
            refine J_aload_n dX4_readOrder_78 rfl rfl ?_
            refine J_bipush (59) dX4_readOrder_79 rfl ?_
            refine J_cV1r (mc := mX4_readSign) hX.1 (by decide) rfl dX4_readOrder_81 mlX4_45 okX4_readSign (kX4_readSign S (jset ((fX4_readNumber ((fX4_readSign (jset (jset ((fX4_readNumber ((fX4_readKind (jset I o 2 (I o 3)) o).2) o).2) o 5 ((fX4_readNumber ((fX4_readKind (jset I o 2 (I o 3)) o).2) o).1)) o 6 0) o 44).2) o).2) o 6 ((fX4_readNumber ((fX4_readSign (jset (jset ((fX4_readNumber ((fX4_readKind (jset I o 2 (I o 3)) o).2) o).2) o 5 ((fX4_readNumber ((fX4_readKind (jset I o 2 (I o 3)) o).2) o).1)) o 6 0) o 44).2) o).1)) o 59 hX) (Nat.le_of_ble_eq_true rfl) (Nat.le_of_ble_eq_true rfl) (Nat.le_of_ble_eq_true rfl) (Nat.le_of_ble_eq_true rfl) ?_
            exact J_iret (ty := .boolean) hR dX4_readOrder_84 rfl (jBn jrsB) (Nat.le_of_ble_eq_true rfl) (Nat.le_of_ble_eq_true rfl) (jRes_f (by first | (simp only [fX4_readOrder, if_neg h1, if_neg h2, if_pos h3, if_neg h4, if_neg h5]; done) | rfl | (simp only [fX4_readOrder, if_neg h1, if_neg h2, if_pos h3, if_neg h4, if_neg h5]; rfl)))
          · skip
            refine J_iconst (0) dX4_readOrder_76 rfl ?_
            exact J_iret (ty := .boolean) hR dX4_readOrder_77 rfl rfl (Nat.le_of_ble_eq_true rfl) (Nat.le_of_ble_eq_true rfl) (jRes_f (by first | (simp only [fX4_readOrder, if_neg h1, if_neg h2, if_pos h3, if_neg h4, if_pos h5]; done) | rfl | (simp only [fX4_readOrder, if_neg h1, if_neg h2, if_pos h3, if_neg h4, if_pos h5]; rfl)))
        · skip
          refine J_iconst (0) dX4_readOrder_58 rfl ?_
          exact J_iret (ty := .boolean) hR dX4_readOrder_59 rfl rfl (Nat.le_of_ble_eq_true rfl) (Nat.le_of_ble_eq_true rfl) (jRes_f (by first | (simp only [fX4_readOrder, if_neg h1, if_neg h2, if_pos h3, if_pos h4]; done) | rfl | (simp only [fX4_readOrder, if_neg h1, if_neg h2, if_pos h3, if_pos h4]; rfl)))
    · skip
      refine J_iconst (0) dX4_readOrder_33 rfl ?_
      exact J_iret (ty := .boolean) hR dX4_readOrder_34 rfl rfl (Nat.le_of_ble_eq_true rfl) (Nat.le_of_ble_eq_true rfl) (jRes_f (by first | (simp only [fX4_readOrder, if_neg h1, if_pos h2]; done) | rfl | (simp only [fX4_readOrder, if_neg h1, if_pos h2]; rfl)))
  · skip
    refine J_iconst (0) dX4_readOrder_15 rfl ?_
    exact J_iret (ty := .boolean) hR dX4_readOrder_16 rfl rfl (Nat.le_of_ble_eq_true rfl) (Nat.le_of_ble_eq_true rfl) (jRes_f (by first | (simp only [fX4_readOrder, if_pos h1]; done) | rfl | (simp only [fX4_readOrder, if_pos h1]; rfl)))
def fX5_stopAt (I : jI) (o : Nat) (x : Int32) (y : Int32) (z : Int32) : jI :=
  (jset (jset (jset I o 1 x) o 2 y) o 3 z)
set_option maxRecDepth 100000 in
set_option maxHeartbeats 4000000 in
theorem kX5_stopAt (S : jX) (I : jI) (o : Nat) (x : Int32) (y : Int32) (z : Int32) (hk : jKd S o 5 0) : jM (0, 0, 0) mX5_stopAt [.ref o, .int x, .int y, .int z] S I (jRes none S (fX5_stopAt I o x y z)) := by
  refine jM.of (ls := [.ref o, .int x, .int y, .int z]) (by decide) (Nat.le_of_ble_eq_true rfl) (by intro v hv; simp only [List.mem_cons, List.not_mem_nil, or_false] at hv; rcases hv with rfl | rfl | rfl | rfl <;> rfl) rfl (fun G hR => ?_)
  refine J_aload_n dX5_stopAt_0 rfl rfl ?_
  refine J_iload_n dX5_stopAt_1 rfl ?_
  refine J_putI dX5_stopAt_2 flX5_65 rfl rfl rfl rfl hk ?_
  refine J_aload_n dX5_stopAt_5 rfl rfl ?_
  refine J_iload_n dX5_stopAt_6 rfl ?_
  refine J_putI dX5_stopAt_7 flX5_15 rfl rfl rfl rfl hk ?_
  refine J_aload_n dX5_stopAt_10 rfl rfl ?_
  refine J_iload_n dX5_stopAt_11 rfl ?_
  refine J_putI dX5_stopAt_12 flX5_68 rfl rfl rfl rfl hk ?_
  exact J_vret hR dX5_stopAt_15 rfl (Nat.le_of_ble_eq_true rfl) (Nat.le_of_ble_eq_true rfl) (jRes_v (by first | (simp only [fX5_stopAt]; done) | rfl | (simp only [fX5_stopAt]; rfl)))
def fX5_takeAnswer (I : jI) (o : Nat) (x : Int32) (y : Int32) : jI :=
  if (fX6_isError I y) = 0 then
    (jset I o 0 ((I o 0) + 1))
  else
    (fX5_stopAt I o x 2 y)
set_option maxRecDepth 100000 in
set_option maxHeartbeats 4000000 in
theorem kX5_takeAnswer (S : jX) (I : jI) (o : Nat) (x : Int32) (y : Int32) (hk : jKd S o 5 0) : jM (1, 0, 0) mX5_takeAnswer [.ref o, .int x, .int y] S I (jRes none S (fX5_takeAnswer I o x y)) := by
  refine jM.of (ls := [.ref o, .int x, .int y]) (by decide) (Nat.le_of_ble_eq_true rfl) (by intro v hv; simp only [List.mem_cons, List.not_mem_nil, or_false] at hv; rcases hv with rfl | rfl | rfl <;> rfl) rfl (fun G hR => ?_)
  refine J_iload_n dX5_takeAnswer_0 rfl ?_
  refine J_cS1r (mc := mX6_isError) dX5_takeAnswer_1 mlX5_61 okX6_isError (kX6_isError S I y ) (Nat.le_of_ble_eq_true rfl) (Nat.le_of_ble_eq_true rfl) (Nat.le_of_ble_eq_true rfl) (Nat.le_of_ble_eq_true rfl) ?_
  refine J_if_eq (tgt := 17) dX5_takeAnswer_4 (by decide) (fun h1 => ?_) (fun h1 => ?_)
  · skip
    refine J_aload_n dX5_takeAnswer_17 rfl rfl ?_
    refine J_dup dX5_takeAnswer_18 rfl ?_
    refine J_getI dX5_takeAnswer_19 flX5_9 rfl hk ?_
    refine J_iconst (1) dX5_takeAnswer_22 rfl ?_
    refine J_iadd dX5_takeAnswer_23 ?_
    refine J_putI dX5_takeAnswer_24 flX5_9 rfl rfl rfl rfl hk ?_
    exact J_vret hR dX5_takeAnswer_27 rfl (Nat.le_of_ble_eq_true rfl) (Nat.le_of_ble_eq_true rfl) (jRes_v (by first | (simp only [fX5_takeAnswer, if_pos h1]; done) | rfl | (simp only [fX5_takeAnswer, if_pos h1]; rfl)))
  · skip
    refine J_aload_n dX5_takeAnswer_7 rfl rfl ?_
    refine J_iload_n dX5_takeAnswer_8 rfl ?_
    refine J_iconst (2) dX5_takeAnswer_9 rfl ?_
    refine J_iload_n dX5_takeAnswer_10 rfl ?_
    refine J_cV3 (mc := mX5_stopAt) hk (by decide) rfl dX5_takeAnswer_11 mlX5_57 okX5_stopAt (kX5_stopAt S I o x 2 y hk) (Nat.le_of_ble_eq_true rfl) (Nat.le_of_ble_eq_true rfl) (Nat.le_of_ble_eq_true rfl) (Nat.le_of_ble_eq_true rfl) ?_
    refine J_goto (tgt := 27) dX5_takeAnswer_14 (by decide) ?_
    exact J_vret hR dX5_takeAnswer_27 rfl (Nat.le_of_ble_eq_true rfl) (Nat.le_of_ble_eq_true rfl) (jRes_v (by first | (simp only [fX5_takeAnswer, if_neg h1]; done) | rfl | (simp only [fX5_takeAnswer, if_neg h1]; rfl)))
def fX5_ordersDone (I : jI) (o : Nat) : Int32 :=
  if (I o 2) = 0 then
    (I o 0)
  else
    (-2000000002)
set_option maxRecDepth 100000 in
set_option maxHeartbeats 4000000 in
theorem kX5_ordersDone (S : jX) (I : jI) (o : Nat) (hk : jKd S o 5 0) : jM (0, 0, 0) mX5_ordersDone [.ref o] S I (jRes (some (.int (fX5_ordersDone I o))) S I) := by
  refine jM.of (ls := [.ref o]) (by decide) (Nat.le_of_ble_eq_true rfl) (by intro v hv; simp only [List.mem_cons, List.not_mem_nil, or_false] at hv; rcases hv with rfl <;> rfl) rfl (fun G hR => ?_)
  refine J_aload_n dX5_ordersDone_0 rfl rfl ?_
  refine J_getI dX5_ordersDone_1 flX5_15 rfl hk ?_
  refine J_if_ne (tgt := 14) dX5_ordersDone_4 (by decide) (fun h1 => ?_) (fun h1 => ?_)
  · skip
    refine J_ldc (-2000000002) dX5_ordersDone_14 jw_698 ?_
    exact J_iret (ty := .int) hR dX5_ordersDone_16 rfl rfl (Nat.le_of_ble_eq_true rfl) (Nat.le_of_ble_eq_true rfl) (jRes_i (by first | (simp only [fX5_ordersDone, if_neg h1]; done) | rfl | (simp only [fX5_ordersDone, if_neg h1]; rfl)) rfl)
  · skip
    refine J_aload_n dX5_ordersDone_7 rfl rfl ?_
    refine J_getI dX5_ordersDone_8 flX5_9 rfl hk ?_
    refine J_goto (tgt := 16) dX5_ordersDone_11 (by decide) ?_
    exact J_iret (ty := .int) hR dX5_ordersDone_16 rfl rfl (Nat.le_of_ble_eq_true rfl) (Nat.le_of_ble_eq_true rfl) (jRes_i (by first | (simp only [fX5_ordersDone, if_pos h1]; done) | rfl | (simp only [fX5_ordersDone, if_pos h1]; rfl)) rfl)
def fX5_factOfFault (I : jI) (o : Nat) (x : Int32) : Int32 :=
  if (I o 2) = 0 then
    (-2000000004)
  else
    if x = 0 then
      (I o 1)
    else
      if x = 1 then
        (I o 2)
      else
        (I o 3)
set_option maxRecDepth 100000 in
set_option maxHeartbeats 4000000 in
theorem kX5_factOfFault (S : jX) (I : jI) (o : Nat) (x : Int32) (hk : jKd S o 5 0) : jM (0, 0, 0) mX5_factOfFault [.ref o, .int x] S I (jRes (some (.int (fX5_factOfFault I o x))) S I) := by
  refine jM.of (ls := [.ref o, .int x]) (by decide) (Nat.le_of_ble_eq_true rfl) (by intro v hv; simp only [List.mem_cons, List.not_mem_nil, or_false] at hv; rcases hv with rfl | rfl <;> rfl) rfl (fun G hR => ?_)
  refine J_aload_n dX5_factOfFault_0 rfl rfl ?_
  refine J_getI dX5_factOfFault_1 flX5_15 rfl hk ?_
  refine J_if_ne (tgt := 10) dX5_factOfFault_4 (by decide) (fun h1 => ?_) (fun h1 => ?_)
  · skip
    refine J_iload_n dX5_factOfFault_10 rfl ?_
    refine J_if_ne (tgt := 19) dX5_factOfFault_11 (by decide) (fun h2 => ?_) (fun h2 => ?_)
    · skip
      refine J_iload_n dX5_factOfFault_19 rfl ?_
      refine J_iconst (1) dX5_factOfFault_20 rfl ?_
      refine J_icmp_ne (tgt := 31) dX5_factOfFault_21 (by decide) (fun h3 => ?_) (fun h3 => ?_)
      · skip
        refine J_aload_n dX5_factOfFault_31 rfl rfl ?_
        refine J_getI dX5_factOfFault_32 flX5_68 rfl hk ?_
        exact J_iret (ty := .int) hR dX5_factOfFault_35 rfl rfl (Nat.le_of_ble_eq_true rfl) (Nat.le_of_ble_eq_true rfl) (jRes_i (by first | (simp only [fX5_factOfFault, if_neg h1, if_neg h2, if_neg h3]; done) | rfl | (simp only [fX5_factOfFault, if_neg h1, if_neg h2, if_neg h3]; rfl)) rfl)
      · skip
        refine J_aload_n dX5_factOfFault_24 rfl rfl ?_
        refine J_getI dX5_factOfFault_25 flX5_15 rfl hk ?_
        refine J_goto (tgt := 35) dX5_factOfFault_28 (by decide) ?_
        exact J_iret (ty := .int) hR dX5_factOfFault_35 rfl rfl (Nat.le_of_ble_eq_true rfl) (Nat.le_of_ble_eq_true rfl) (jRes_i (by first | (simp only [fX5_factOfFault, if_neg h1, if_neg h2, if_pos h3]; done) | rfl | (simp only [fX5_factOfFault, if_neg h1, if_neg h2, if_pos h3]; rfl)) rfl)
    · skip
      refine J_aload_n dX5_factOfFault_14 rfl rfl ?_
      refine J_getI dX5_factOfFault_15 flX5_65 rfl hk ?_
      exact J_iret (ty := .int) hR dX5_factOfFault_18 rfl rfl (Nat.le_of_ble_eq_true rfl) (Nat.le_of_ble_eq_true rfl) (jRes_i (by first | (simp only [fX5_factOfFault, if_neg h1, if_pos h2]; done) | rfl | (simp only [fX5_factOfFault, if_neg h1, if_pos h2]; rfl)) rfl)
  · skip
    refine J_ldc (-2000000004) dX5_factOfFault_7 jw_689 ?_
    exact J_iret (ty := .int) hR dX5_factOfFault_9 rfl rfl (Nat.le_of_ble_eq_true rfl) (Nat.le_of_ble_eq_true rfl) (jRes_i (by first | (simp only [fX5_factOfFault, if_pos h1]; done) | rfl | (simp only [fX5_factOfFault, if_pos h1]; rfl)) rfl)
def jHist (S : jX) (o : Nat) : Prop := jKd S o 1 0 ∧ S.2.2 o 0 = some (o + 1) ∧ jKd S (o + 1) 12 4 ∧ ∀ i, i < 4 → jHouse S (o + 2 + 19 * i) ∧ S.2.2 (o + 1) i = some (o + 2 + 19 * i)
def fX1_size (I : jI) (o : Nat) : Int32 :=
  (I o 1)
set_option maxRecDepth 100000 in
set_option maxHeartbeats 4000000 in
theorem kX1_size (S : jX) (I : jI) (o : Nat) (hT : jHist S o) : jM (0, 0, 0) mX1_size [.ref o] S I (jRes (some (.int (fX1_size I o))) S I) := by
  refine jM.of (ls := [.ref o]) (by decide) (Nat.le_of_ble_eq_true rfl) (by intro v hv; simp only [List.mem_cons, List.not_mem_nil, or_false] at hv; rcases hv with rfl <;> rfl) rfl (fun G hR => ?_)
  refine J_aload_n dX1_size_0 rfl rfl ?_
  refine J_getI dX1_size_1 flX1_18 rfl hT.1 ?_
  exact J_iret (ty := .int) hR dX1_size_4 rfl rfl (Nat.le_of_ble_eq_true rfl) (Nat.le_of_ble_eq_true rfl) (jRes_i (by first | (simp only [fX1_size]; done) | rfl | (simp only [fX1_size]; rfl)) rfl)
def fX1_stateAt (I : jI) (o : Nat) (x : Int32) : Option Nat :=
  if x < 0 then
    none
  else
    if 4 ≤ x then
      none
    else
      some (o + 2 + 19 * x.toNatClampNeg)
set_option maxRecDepth 100000 in
set_option maxHeartbeats 4000000 in
theorem kX1_stateAt (S : jX) (I : jI) (o : Nat) (x : Int32) (hT : jHist S o) : jM (0, 0, 0) mX1_stateAt [.ref o, .int x] S I (jRes (some (va_rf (fX1_stateAt I o x))) S I) := by
  refine jM.of (ls := [.ref o, .int x]) (by decide) (Nat.le_of_ble_eq_true rfl) (by intro v hv; simp only [List.mem_cons, List.not_mem_nil, or_false] at hv; rcases hv with rfl | rfl <;> rfl) rfl (fun G hR => ?_)
  refine J_iload_n dX1_stateAt_0 rfl ?_
  refine J_if_lt (tgt := 22) dX1_stateAt_1 (by decide) (fun h1 => ?_) (fun h1 => ?_)
  · skip
    refine J_null dX1_stateAt_22 ?_
    exact J_aret (C := "BoilerPapers$House") hR dX1_stateAt_23 rfl rfl (Nat.le_of_ble_eq_true rfl) (Nat.le_of_ble_eq_true rfl) (jRes_o (by first | (simp only [fX1_stateAt, if_pos h1]; done) | rfl | (simp only [fX1_stateAt, if_pos h1]; rfl)) rfl)
  · skip
    refine J_iload_n dX1_stateAt_4 rfl ?_
    refine J_aload_n dX1_stateAt_5 rfl rfl ?_
    refine J_getR dX1_stateAt_6 flX1_11 rfl hT.1 hT.2.1 ?_
    refine J_alen (x := 4) dX1_stateAt_9 hT.2.2.1 ⟨by decide, by decide⟩ rfl ?_
    refine J_icmp_ge (tgt := 22) dX1_stateAt_10 (by decide) (fun h2 => ?_) (fun h2 => ?_)
    · skip
      refine J_null dX1_stateAt_22 ?_
      exact J_aret (C := "BoilerPapers$House") hR dX1_stateAt_23 rfl rfl (Nat.le_of_ble_eq_true rfl) (Nat.le_of_ble_eq_true rfl) (jRes_o (by first | (simp only [fX1_stateAt, if_neg h1, if_pos h2]; done) | rfl | (simp only [fX1_stateAt, if_neg h1, if_pos h2]; rfl)) rfl)
    · skip
      refine J_aload_n dX1_stateAt_13 rfl rfl ?_
      refine J_getR dX1_stateAt_14 flX1_11 rfl hT.1 hT.2.1 ?_
      refine J_iload_n dX1_stateAt_17 rfl ?_
      refine J_aaload dX1_stateAt_18 hT.2.2.1 ⟨by decide, by decide⟩ (jvp_4 (by assumption) (by assumption)) (hT.2.2.2 _ (jtn (jvp_4 (by assumption) (by assumption)))).2 ?_
      refine J_goto (tgt := 23) dX1_stateAt_19 (by decide) ?_
      exact J_aret (C := "BoilerPapers$House") hR dX1_stateAt_23 rfl rfl (Nat.le_of_ble_eq_true rfl) (Nat.le_of_ble_eq_true rfl) (jRes_o (by first | (simp only [fX1_stateAt, if_neg h1, if_neg h2]; done) | rfl | (simp only [fX1_stateAt, if_neg h1, if_neg h2]; rfl)) rfl)
theorem stateAt_ok {I : jI} {o i : Nat} (hi : i < 4) : fX1_stateAt I o (nI i) = some (o + 2 + 19 * i) := by
  unfold fX1_stateAt
  rw [if_neg (nI_pos (by omega)), if_neg (show ¬ (4 : Int32) ≤ nI i from nI_ge (a := i) (b := 4) (by omega) (by decide)), nI_clamp (by omega)]
