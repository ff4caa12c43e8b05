def fX0_begin (I : jI) (o : Nat) (x : Int32) : jI :=
  (jset (jset (jset (jset (jset (jset (jset (jset (jset I o 0 x) o 1 x) o 2 0) o 3 0) o 4 1) o 5 0) o 6 0) o 7 0) o 11 0)
set_option maxRecDepth 100000 in
set_option maxHeartbeats 4000000 in
theorem kX0_begin (S : jX) (I : jI) (o : Nat) (x : Int32) (hk : jKd S o 0 0) : jM (0, 0, 0) mX0_begin [.ref o, .int x] S I (jRes none S (fX0_begin I o x)) := by
  refine jM.of (ls := [.ref o, .int x]) (by decide) (Nat.le_of_ble_eq_true rfl) (by intro v hv; simp only [List.mem_cons, List.not_mem_nil, or_false] at hv; rcases hv with rfl | rfl <;> rfl) rfl (fun G hR => ?_)
  refine J_aload_n dX0_begin_0 rfl rfl ?_
  refine J_iload_n dX0_begin_1 rfl ?_
  refine J_putI dX0_begin_2 flX0_9 rfl rfl rfl rfl hk ?_
  refine J_aload_n dX0_begin_5 rfl rfl ?_
  refine J_iload_n dX0_begin_6 rfl ?_
  refine J_putI dX0_begin_7 flX0_15 rfl rfl rfl rfl hk ?_
  refine J_aload_n dX0_begin_10 rfl rfl ?_
  refine J_iconst (0) dX0_begin_11 rfl ?_
  refine J_putI dX0_begin_12 flX0_18 rfl rfl rfl rfl hk ?_
  refine J_aload_n dX0_begin_15 rfl rfl ?_
  refine J_iconst (0) dX0_begin_16 rfl ?_
  refine J_putI dX0_begin_17 flX0_21 rfl rfl rfl rfl hk ?_
  refine J_aload_n dX0_begin_20 rfl rfl ?_
  refine J_iconst (1) dX0_begin_21 rfl ?_
  refine J_putI dX0_begin_22 flX0_24 rfl rfl rfl rfl hk ?_
  refine J_aload_n dX0_begin_25 rfl rfl ?_
  refine J_iconst (0) dX0_begin_26 rfl ?_
  refine J_putI dX0_begin_27 flX0_27 rfl rfl rfl rfl hk ?_
  refine J_aload_n dX0_begin_30 rfl rfl ?_
  refine J_iconst (0) dX0_begin_31 rfl ?_
  refine J_putI dX0_begin_32 flX0_30 rfl rfl rfl rfl hk ?_
  refine J_aload_n dX0_begin_35 rfl rfl ?_
  refine J_iconst (0) dX0_begin_36 rfl ?_
  refine J_putI dX0_begin_37 flX0_34 rfl rfl rfl rfl hk ?_
  refine J_aload_n dX0_begin_40 rfl rfl ?_
  refine J_iconst (0) dX0_begin_41 rfl ?_
  refine J_putI dX0_begin_42 flX0_37 rfl rfl rfl rfl hk ?_
  exact J_vret hR dX0_begin_45 rfl (Nat.le_of_ble_eq_true rfl) (Nat.le_of_ble_eq_true rfl) (jRes_v (by first | (simp only [fX0_begin]; done) | rfl | (simp only [fX0_begin]; rfl)))
def fX0_strength (I : jI) (o : Nat) : Int32 :=
  (((I o 0) * (200 - (I o 2))) / 200)
set_option maxRecDepth 100000 in
set_option maxHeartbeats 4000000 in
theorem kX0_strength (S : jX) (I : jI) (o : Nat) (hk : jKd S o 0 0) : jM (0, 0, 0) mX0_strength [.ref o] S I (jRes (some (.int (fX0_strength I o))) S I) := by
  refine jM.of (ls := [.ref o]) (by decide) (Nat.le_of_ble_eq_true rfl) (by intro v hv; simp only [List.mem_cons, List.not_mem_nil, or_false] at hv; rcases hv with rfl <;> rfl) rfl (fun G hR => ?_)
  refine J_aload_n dX0_strength_0 rfl rfl ?_
  refine J_getI dX0_strength_1 flX0_9 rfl hk ?_
  refine J_sipush (200) dX0_strength_4 rfl ?_
  refine J_aload_n dX0_strength_7 rfl rfl ?_
  refine J_getI dX0_strength_8 flX0_18 rfl hk ?_
  refine J_isub dX0_strength_11 ?_
  refine J_imul dX0_strength_12 ?_
  refine J_sipush (200) dX0_strength_13 rfl ?_
  refine J_idiv dX0_strength_16 (by decide) ?_
  exact J_iret (ty := .int) hR dX0_strength_17 rfl rfl (Nat.le_of_ble_eq_true rfl) (Nat.le_of_ble_eq_true rfl) (jRes_i (by first | (simp only [fX0_strength]; done) | rfl | (simp only [fX0_strength]; rfl)) rfl)
def fX0_isShutIn (I : jI) (o : Nat) (x : Int32) : Int32 :=
  if (I o 11) = 0 then
    0
  else
    if x < (I o 12) then
      0
    else
      if (I o 13) < x then
        0
      else
        1
set_option maxRecDepth 100000 in
set_option maxHeartbeats 4000000 in
theorem kX0_isShutIn (S : jX) (I : jI) (o : Nat) (x : Int32) (hk : jKd S o 0 0) : jM (0, 0, 0) mX0_isShutIn [.ref o, .int x] S I (jRes (some (.int (fX0_isShutIn I o x))) S I) := by
  refine jM.of (ls := [.ref o, .int x]) (by decide) (Nat.le_of_ble_eq_true rfl) (by intro v hv; simp only [List.mem_cons, List.not_mem_nil, or_false] at hv; rcases hv with rfl | rfl <;> rfl) rfl (fun G hR => ?_)
  refine J_aload_n dX0_isShutIn_0 rfl rfl ?_
  refine J_getI dX0_isShutIn_1 flX0_37 rfl hk ?_
  refine J_if_eq (tgt := 27) dX0_isShutIn_4 (by decide) (fun h1 => ?_) (fun h1 => ?_)
  · skip
    refine J_iconst (0) dX0_isShutIn_27 rfl ?_
    exact J_iret (ty := .boolean) hR dX0_isShutIn_28 rfl rfl (Nat.le_of_ble_eq_true rfl) (Nat.le_of_ble_eq_true rfl) (jRes_i (by first | (simp only [fX0_isShutIn, if_pos h1]; done) | rfl | (simp only [fX0_isShutIn, if_pos h1]; rfl)) rfl)
  · skip
    refine J_aload_n dX0_isShutIn_7 rfl rfl ?_
    refine J_getI dX0_isShutIn_8 flX0_49 rfl hk ?_
    refine J_iload_n dX0_isShutIn_11 rfl ?_
    refine J_icmp_gt (tgt := 27) dX0_isShutIn_12 (by decide) (fun h2 => ?_) (fun h2 => ?_)
    · skip
      refine J_iconst (0) dX0_isShutIn_27 rfl ?_
      exact J_iret (ty := .boolean) hR dX0_isShutIn_28 rfl rfl (Nat.le_of_ble_eq_true rfl) (Nat.le_of_ble_eq_true rfl) (jRes_i (by first | (simp only [fX0_isShutIn, if_neg h1, if_pos h2]; done) | rfl | (simp only [fX0_isShutIn, if_neg h1, if_pos h2]; rfl)) rfl)
    · skip
      refine J_iload_n dX0_isShutIn_15 rfl ?_
      refine J_aload_n dX0_isShutIn_16 rfl rfl ?_
      refine J_getI dX0_isShutIn_17 flX0_52 rfl hk ?_
      refine J_icmp_gt (tgt := 27) dX0_isShutIn_20 (by decide) (fun h3 => ?_) (fun h3 => ?_)
      · skip
        refine J_iconst (0) dX0_isShutIn_27 rfl ?_
        exact J_iret (ty := .boolean) hR dX0_isShutIn_28 rfl rfl (Nat.le_of_ble_eq_true rfl) (Nat.le_of_ble_eq_true rfl) (jRes_i (by first | (simp only [fX0_isShutIn, if_neg h1, if_neg h2, if_pos h3]; done) | rfl | (simp only [fX0_isShutIn, if_neg h1, if_neg h2, if_pos h3]; rfl)) rfl)
      · skip
        refine J_iconst (1) dX0_isShutIn_23 rfl ?_
        refine J_goto (tgt := 28) dX0_isShutIn_24 (by decide) ?_
        exact J_iret (ty := .boolean) hR dX0_isShutIn_28 rfl rfl (Nat.le_of_ble_eq_true rfl) (Nat.le_of_ble_eq_true rfl) (jRes_i (by first | (simp only [fX0_isShutIn, if_neg h1, if_neg h2, if_neg h3]; done) | rfl | (simp only [fX0_isShutIn, if_neg h1, if_neg h2, if_neg h3]; rfl)) rfl)
def fX0_whyNotFiredIn (I : jI) (o : Nat) (x : Int32) : Int32 :=
  if (I o 3) = 2 then
    1
  else
    if (I o 3) = 1 then
      2
    else
      if (I o 6) = 0 then
        if (fX0_isShutIn I o x) = 0 then
          if (I o 7) = 0 then
            5
          else
            if (I o 1) ≤ (I o 9) then
              0
            else
              6
        else
          4
      else
        3
set_option maxRecDepth 100000 in
set_option maxHeartbeats 4000000 in
theorem kX0_whyNotFiredIn (S : jX) (I : jI) (o : Nat) (x : Int32) (hk : jKd S o 0 0) : jM (1, 0, 0) mX0_whyNotFiredIn [.ref o, .int x] S I (jRes (some (.int (fX0_whyNotFiredIn I o x))) S I) := by
  refine jM.of (ls := [.ref o, .int x]) (by decide) (Nat.le_of_ble_eq_true rfl) (by intro v hv; simp only [List.mem_cons, List.not_mem_nil, or_false] at hv; rcases hv with rfl | rfl <;> rfl) rfl (fun G hR => ?_)
  refine J_aload_n dX0_whyNotFiredIn_0 rfl rfl ?_
  refine J_getI dX0_whyNotFiredIn_1 flX0_21 rfl hk ?_
  refine J_iconst (2) dX0_whyNotFiredIn_4 rfl ?_
  refine J_icmp_ne (tgt := 10) dX0_whyNotFiredIn_5 (by decide) (fun h1 => ?_) (fun h1 => ?_)
  · skip
    refine J_aload_n dX0_whyNotFiredIn_10 rfl rfl ?_
    refine J_getI dX0_whyNotFiredIn_11 flX0_21 rfl hk ?_
    refine J_iconst (1) dX0_whyNotFiredIn_14 rfl ?_
    refine J_icmp_ne (tgt := 20) dX0_whyNotFiredIn_15 (by decide) (fun h2 => ?_) (fun h2 => ?_)
    · skip
      refine J_aload_n dX0_whyNotFiredIn_20 rfl rfl ?_
      refine J_getI dX0_whyNotFiredIn_21 flX0_30 rfl hk ?_
      refine J_if_eq (tgt := 29) dX0_whyNotFiredIn_24 (by decide) (fun h3 => ?_) (fun h3 => ?_)
      · skip
        refine J_aload_n dX0_whyNotFiredIn_29 rfl rfl ?_
        refine J_iload_n dX0_whyNotFiredIn_30 rfl ?_
        refine J_cV1r (mc := mX0_isShutIn) hk (by decide) rfl dX0_whyNotFiredIn_31 mlX0_55 okX0_isShutIn (kX0_isShutIn S I o x hk) (Nat.le_of_ble_eq_true rfl) (Nat.le_of_ble_eq_true rfl) (Nat.le_of_ble_eq_true rfl) (Nat.le_of_ble_eq_true rfl) ?_
        refine J_if_eq (tgt := 39) dX0_whyNotFiredIn_34 (by decide) (fun h4 => ?_) (fun h4 => ?_)
        · skip
          refine J_aload_n dX0_whyNotFiredIn_39 rfl rfl ?_
          refine J_getI dX0_whyNotFiredIn_40 flX0_34 rfl hk ?_
          refine J_if_ne (tgt := 48) dX0_whyNotFiredIn_43 (by decide) (fun h5 => ?_) (fun h5 => ?_)
          · skip
            refine J_aload_n dX0_whyNotFiredIn_48 rfl rfl ?_
            refine J_getI dX0_whyNotFiredIn_49 flX0_15 rfl hk ?_
            refine J_aload_n dX0_whyNotFiredIn_52 rfl rfl ?_
            refine J_getI dX0_whyNotFiredIn_53 flX0_43 rfl hk ?_
            refine J_icmp_le (tgt := 64) dX0_whyNotFiredIn_56 (by decide) (fun h6 => ?_) (fun h6 => ?_)
            · skip
              refine J_iconst (0) dX0_whyNotFiredIn_64 rfl ?_
              exact J_iret (ty := .int) hR dX0_whyNotFiredIn_65 rfl rfl (Nat.le_of_ble_eq_true rfl) (Nat.le_of_ble_eq_true rfl) (jRes_i (by first | (simp only [fX0_whyNotFiredIn, if_neg h1, if_neg h2, if_pos h3, if_pos h4, if_neg h5, if_pos h6]; done) | rfl | (simp only [fX0_whyNotFiredIn, if_neg h1, if_neg h2, if_pos h3, if_pos h4, if_neg h5, if_pos h6]; rfl)) rfl)
            · skip
              refine J_bipush (6) dX0_whyNotFiredIn_59 rfl ?_
              refine J_goto (tgt := 65) dX0_whyNotFiredIn_61 (by decide) ?_
              exact J_iret (ty := .int) hR dX0_whyNotFiredIn_65 rfl rfl (Nat.le_of_ble_eq_true rfl) (Nat.le_of_ble_eq_true rfl) (jRes_i (by first | (simp only [fX0_whyNotFiredIn, if_neg h1, if_neg h2, if_pos h3, if_pos h4, if_neg h5, if_neg h6]; done) | rfl | (simp only [fX0_whyNotFiredIn, if_neg h1, if_neg h2, if_pos h3, if_pos h4, if_neg h5, if_neg h6]; rfl)) rfl)
          · skip
            refine J_iconst (5) dX0_whyNotFiredIn_46 rfl ?_
            exact J_iret (ty := .int) hR dX0_whyNotFiredIn_47 rfl rfl (Nat.le_of_ble_eq_true rfl) (Nat.le_of_ble_eq_true rfl) (jRes_i (by first | (simp only [fX0_whyNotFiredIn, if_neg h1, if_neg h2, if_pos h3, if_pos h4, if_pos h5]; done) | rfl | (simp only [fX0_whyNotFiredIn, if_neg h1, if_neg h2, if_pos h3, if_pos h4, if_pos h5]; rfl)) rfl)
        · skip
          refine J_iconst (4) dX0_whyNotFiredIn_37 rfl ?_
          exact J_iret (ty := .int) hR dX0_whyNotFiredIn_38 rfl rfl (Nat.le_of_ble_eq_true rfl) (Nat.le_of_ble_eq_true rfl) (jRes_i (by first | (simp only [fX0_whyNotFiredIn, if_neg h1, if_neg h2, if_pos h3, if_neg h4]; done) | rfl | (simp only [fX0_whyNotFiredIn, if_neg h1, if_neg h2, if_pos h3, if_neg h4]; rfl)) rfl)
      · skip
        refine J_iconst (3) dX0_whyNotFiredIn_27 rfl ?_
        exact J_iret (ty := .int) hR dX0_whyNotFiredIn_28 rfl rfl (Nat.le_of_ble_eq_true rfl) (Nat.le_of_ble_eq_true rfl) (jRes_i (by first | (simp only [fX0_whyNotFiredIn, if_neg h1, if_neg h2, if_neg h3]; done) | rfl | (simp only [fX0_whyNotFiredIn, if_neg h1, if_neg h2, if_neg h3]; rfl)) rfl)
    · skip
      refine J_iconst (2) dX0_whyNotFiredIn_18 rfl ?_
      exact J_iret (ty := .int) hR dX0_whyNotFiredIn_19 rfl rfl (Nat.le_of_ble_eq_true rfl) (Nat.le_of_ble_eq_true rfl) (jRes_i (by first | (simp only [fX0_whyNotFiredIn, if_neg h1, if_pos h2]; done) | rfl | (simp only [fX0_whyNotFiredIn, if_neg h1, if_pos h2]; rfl)) rfl)
  · skip
    refine J_iconst (1) dX0_whyNotFiredIn_8 rfl ?_
    exact J_iret (ty := .int) hR dX0_whyNotFiredIn_9 rfl rfl (Nat.le_of_ble_eq_true rfl) (Nat.le_of_ble_eq_true rfl) (jRes_i (by first | (simp only [fX0_whyNotFiredIn, if_pos h1]; done) | rfl | (simp only [fX0_whyNotFiredIn, if_pos h1]; rfl)) rfl)
def fX3_left (I : jI) (o : Nat) : Int32 :=
  ((I o 1) - (I o 2))
set_option maxRecDepth 100000 in
set_option maxHeartbeats 4000000 in
theorem kX3_left (S : jX) (I : jI) (o : Nat) (hk : jKd S o 3 0) : jM (0, 0, 0) mX3_left [.ref o] S I (jRes (some (.int (fX3_left I o))) S I) := by
  refine jM.of (ls := [.ref o]) (by decide) (Nat.le_of_ble_eq_true rfl) (by intro v hv; simp only [List.mem_cons, List.not_mem_nil, or_false] at hv; rcases hv with rfl <;> rfl) rfl (fun G hR => ?_)
  refine J_aload_n dX3_left_0 rfl rfl ?_
  refine J_getI dX3_left_1 flX3_15 rfl hk ?_
  refine J_aload_n dX3_left_4 rfl rfl ?_
  refine J_getI dX3_left_5 flX3_18 rfl hk ?_
  refine J_isub dX3_left_8 ?_
  exact J_iret (ty := .int) hR dX3_left_9 rfl rfl (Nat.le_of_ble_eq_true rfl) (Nat.le_of_ble_eq_true rfl) (jRes_i (by first | (simp only [fX3_left]; done) | rfl | (simp only [fX3_left]; rfl)) rfl)
def fX0_whyNotInspectedBy (I : jI) (o : Nat) (q : Nat) : Int32 :=
  if (I o 3) = 2 then
    1
  else
    if (I o 3) = 1 then
      2
    else
      if (I o 4) = 0 then
        3
      else
        if (I o 6) = 0 then
          if 1 ≤ (fX3_left I q) then
            0
          else
            5
        else
          4
set_option maxRecDepth 100000 in
set_option maxHeartbeats 4000000 in
theorem kX0_whyNotInspectedBy (S : jX) (I : jI) (o : Nat) (q : Nat) (hk : jKd S o 0 0) (hq : jKd S q 3 0) : jM (1, 0, 0) mX0_whyNotInspectedBy [.ref o, .ref q] S I (jRes (some (.int (fX0_whyNotInspectedBy I o q))) S I) := by
  refine jM.of (ls := [.ref o, .ref q]) (by decide) (Nat.le_of_ble_eq_true rfl) (by intro v hv; simp only [List.mem_cons, List.not_mem_nil, or_false] at hv; rcases hv with rfl | rfl <;> rfl) rfl (fun G hR => ?_)
  refine J_aload_n dX0_whyNotInspectedBy_0 rfl rfl ?_
  refine J_getI dX0_whyNotInspectedBy_1 flX0_21 rfl hk ?_
  refine J_iconst (2) dX0_whyNotInspectedBy_4 rfl ?_
  refine J_icmp_ne (tgt := 10) dX0_whyNotInspectedBy_5 (by decide) (fun h1 => ?_) (fun h1 => ?_)
  · skip
    refine J_aload_n dX0_whyNotInspectedBy_10 rfl rfl ?_
    refine J_getI dX0_whyNotInspectedBy_11 flX0_21 rfl hk ?_
    refine J_iconst (1) dX0_whyNotInspectedBy_14 rfl ?_
    refine J_icmp_ne (tgt := 20) dX0_whyNotInspectedBy_15 (by decide) (fun h2 => ?_) (fun h2 => ?_)
    · skip
      refine J_aload_n dX0_whyNotInspectedBy_20 rfl rfl ?_
      refine J_getI dX0_whyNotInspectedBy_21 flX0_24 rfl hk ?_
      refine J_if_ne (tgt := 29) dX0_whyNotInspectedBy_24 (by decide) (fun h3 => ?_) (fun h3 => ?_)
      · skip
        refine J_aload_n dX0_whyNotInspectedBy_29 rfl rfl ?_
        refine J_getI dX0_whyNotInspectedBy_30 flX0_30 rfl hk ?_
        refine J_if_eq (tgt := 38) dX0_whyNotInspectedBy_33 (by decide) (fun h4 => ?_) (fun h4 => ?_)
        · skip
          refine J_aload_n dX0_whyNotInspectedBy_38 rfl rfl ?_
          refine J_cV0r (mc := mX3_left) hq (by decide) rfl dX0_whyNotInspectedBy_39 mlX0_59 okX3_left (kX3_left S I q hq) (Nat.le_of_ble_eq_true rfl) (Nat.le_of_ble_eq_true rfl) (Nat.le_of_ble_eq_true rfl) (Nat.le_of_ble_eq_true rfl) ?_
          refine J_iconst (1) dX0_whyNotInspectedBy_42 rfl ?_
          refine J_icmp_ge (tgt := 50) dX0_whyNotInspectedBy_43 (by decide) (fun h5 => ?_) (fun h5 => ?_)
          · skip
            refine J_iconst (0) dX0_whyNotInspectedBy_50 rfl ?_
            exact J_iret (ty := .int) hR dX0_whyNotInspectedBy_51 rfl rfl (Nat.le_of_ble_eq_true rfl) (Nat.le_of_ble_eq_true rfl) (jRes_i (by first | (simp only [fX0_whyNotInspectedBy, if_neg h1, if_neg h2, if_neg h3, if_pos h4, if_pos h5]; done) | rfl | (simp only [fX0_whyNotInspectedBy, if_neg h1, if_neg h2, if_neg h3, if_pos h4, if_pos h5]; rfl)) rfl)
          · skip
            refine J_iconst (5) dX0_whyNotInspectedBy_46 rfl ?_
            refine J_goto (tgt := 51) dX0_whyNotInspectedBy_47 (by decide) ?_
            exact J_iret (ty := .int) hR dX0_whyNotInspectedBy_51 rfl rfl (Nat.le_of_ble_eq_true rfl) (Nat.le_of_ble_eq_true rfl) (jRes_i (by first | (simp only [fX0_whyNotInspectedBy, if_neg h1, if_neg h2, if_neg h3, if_pos h4, if_neg h5]; done) | rfl | (simp only [fX0_whyNotInspectedBy, if_neg h1, if_neg h2, if_neg h3, if_pos h4, if_neg h5]; rfl)) rfl)
        · skip
          refine J_iconst (4) dX0_whyNotInspectedBy_36 rfl ?_
          exact J_iret (ty := .int) hR dX0_whyNotInspectedBy_37 rfl rfl (Nat.le_of_ble_eq_true rfl) (Nat.le_of_ble_eq_true rfl) (jRes_i (by first | (simp only [fX0_whyNotInspectedBy, if_neg h1, if_neg h2, if_neg h3, if_neg h4]; done) | rfl | (simp only [fX0_whyNotInspectedBy, if_neg h1, if_neg h2, if_neg h3, if_neg h4]; rfl)) rfl)
      · skip
        refine J_iconst (3) dX0_whyNotInspectedBy_27 rfl ?_
        exact J_iret (ty := .int) hR dX0_whyNotInspectedBy_28 rfl rfl (Nat.le_of_ble_eq_true rfl) (Nat.le_of_ble_eq_true rfl) (jRes_i (by first | (simp only [fX0_whyNotInspectedBy, if_neg h1, if_neg h2, if_pos h3]; done) | rfl | (simp only [fX0_whyNotInspectedBy, if_neg h1, if_neg h2, if_pos h3]; rfl)) rfl)
    · skip
      refine J_iconst (2) dX0_whyNotInspectedBy_18 rfl ?_
      exact J_iret (ty := .int) hR dX0_whyNotInspectedBy_19 rfl rfl (Nat.le_of_ble_eq_true rfl) (Nat.le_of_ble_eq_true rfl) (jRes_i (by first | (simp only [fX0_whyNotInspectedBy, if_neg h1, if_pos h2]; done) | rfl | (simp only [fX0_whyNotInspectedBy, if_neg h1, if_pos h2]; rfl)) rfl)
  · skip
    refine J_iconst (1) dX0_whyNotInspectedBy_8 rfl ?_
    exact J_iret (ty := .int) hR dX0_whyNotInspectedBy_9 rfl rfl (Nat.le_of_ble_eq_true rfl) (Nat.le_of_ble_eq_true rfl) (jRes_i (by first | (simp only [fX0_whyNotInspectedBy, if_pos h1]; done) | rfl | (simp only [fX0_whyNotInspectedBy, if_pos h1]; rfl)) rfl)
def fX0_takePaper (I : jI) (o : Nat) (x : Int32) (y : Int32) (z : Int32) : jI :=
  (jset (jset (jset (jset I o 7 1) o 8 x) o 9 y) o 10 z)
set_option maxRecDepth 100000 in
set_option maxHeartbeats 4000000 in
theorem kX0_takePaper (S : jX) (I : jI) (o : Nat) (x : Int32) (y : Int32) (z : Int32) (hk : jKd S o 0 0) : jM (0, 0, 0) mX0_takePaper [.ref o, .int x, .int y, .int z] S I (jRes none S (fX0_takePaper I o x y z)) := by
  refine jM.of (ls := [.ref o, .int x, .int y, .int z]) (by decide) (Nat.le_of_ble_eq_true rfl) (by intro v hv; simp only [List.mem_cons, List.not_mem_nil, or_false] at hv; rcases hv with rfl | rfl | rfl | rfl <;> rfl) rfl (fun G hR => ?_)
  refine J_aload_n dX0_takePaper_0 rfl rfl ?_
  refine J_iconst (1) dX0_takePaper_1 rfl ?_
  refine J_putI dX0_takePaper_2 flX0_34 rfl rfl rfl rfl hk ?_
  refine J_aload_n dX0_takePaper_5 rfl rfl ?_
  refine J_iload_n dX0_takePaper_6 rfl ?_
  refine J_putI dX0_takePaper_7 flX0_40 rfl rfl rfl rfl hk ?_
  refine J_aload_n dX0_takePaper_10 rfl rfl ?_
  refine J_iload_n dX0_takePaper_11 rfl ?_
  refine J_putI dX0_takePaper_12 flX0_43 rfl rfl rfl rfl hk ?_
  refine J_aload_n dX0_takePaper_15 rfl rfl ?_
  refine J_iload_n dX0_takePaper_16 rfl ?_
  refine J_putI dX0_takePaper_17 flX0_46 rfl rfl rfl rfl hk ?_
  exact J_vret hR dX0_takePaper_20 rfl (Nat.le_of_ble_eq_true rfl) (Nat.le_of_ble_eq_true rfl) (jRes_v (by first | (simp only [fX0_takePaper]; done) | rfl | (simp only [fX0_takePaper]; rfl)))
def fX0_refusePaper (I : jI) (o : Nat) : jI :=
  (jset (jset I o 7 0) o 6 1)
set_option maxRecDepth 100000 in
set_option maxHeartbeats 4000000 in
theorem kX0_refusePaper (S : jX) (I : jI) (o : Nat) (hk : jKd S o 0 0) : jM (0, 0, 0) mX0_refusePaper [.ref o] S I (jRes none S (fX0_refusePaper I o)) := by
  refine jM.of (ls := [.ref o]) (by decide) (Nat.le_of_ble_eq_true rfl) (by intro v hv; simp only [List.mem_cons, List.not_mem_nil, or_false] at hv; rcases hv with rfl <;> rfl) rfl (fun G hR => ?_)
  refine J_aload_n dX0_refusePaper_0 rfl rfl ?_
  refine J_iconst (0) dX0_refusePaper_1 rfl ?_
  refine J_putI dX0_refusePaper_2 flX0_34 rfl rfl rfl rfl hk ?_
  refine J_aload_n dX0_refusePaper_5 rfl rfl ?_
  refine J_iconst (1) dX0_refusePaper_6 rfl ?_
  refine J_putI dX0_refusePaper_7 flX0_30 rfl rfl rfl rfl hk ?_
  exact J_vret hR dX0_refusePaper_10 rfl (Nat.le_of_ble_eq_true rfl) (Nat.le_of_ble_eq_true rfl) (jRes_v (by first | (simp only [fX0_refusePaper]; done) | rfl | (simp only [fX0_refusePaper]; rfl)))
def fX0_becomeCold (I : jI) (o : Nat) : jI :=
  (jset (jset I o 3 0) o 4 0)
set_option maxRecDepth 100000 in
set_option maxHeartbeats 4000000 in
theorem kX0_becomeCold (S : jX) (I : jI) (o : Nat) (hk : jKd S o 0 0) : jM (0, 0, 0) mX0_becomeCold [.ref o] S I (jRes none S (fX0_becomeCold I o)) := by
  refine jM.of (ls := [.ref o]) (by decide) (Nat.le_of_ble_eq_true rfl) (by intro v hv; simp only [List.mem_cons, List.not_mem_nil, or_false] at hv; rcases hv with rfl <;> rfl) rfl (fun G hR => ?_)
  refine J_aload_n dX0_becomeCold_0 rfl rfl ?_
  refine J_iconst (0) dX0_becomeCold_1 rfl ?_
  refine J_putI dX0_becomeCold_2 flX0_21 rfl rfl rfl rfl hk ?_
  refine J_aload_n dX0_becomeCold_5 rfl rfl ?_
  refine J_iconst (0) dX0_becomeCold_6 rfl ?_
  refine J_putI dX0_becomeCold_7 flX0_24 rfl rfl rfl rfl hk ?_
  exact J_vret hR dX0_becomeCold_10 rfl (Nat.le_of_ble_eq_true rfl) (Nat.le_of_ble_eq_true rfl) (jRes_v (by first | (simp only [fX0_becomeCold]; done) | rfl | (simp only [fX0_becomeCold]; rfl)))
def fX0_age (I : jI) (o : Nat) : jI :=
  if (I o 3) = 1 then
    (jset I o 2 (if (((I o 2) + 1) + ((I o 1) / 10)) < 200 then (((I o 2) + 1) + ((I o 1) / 10)) else 200))
  else
    if (I o 3) = 0 then
      (jset I o 4 ((I o 4) + 1))
    else
      I
set_option maxRecDepth 100000 in
set_option maxHeartbeats 4000000 in
theorem kX0_age (S : jX) (I : jI) (o : Nat) (hk : jKd S o 0 0) : jM (1, 0, 0) mX0_age [.ref o] S I (jRes none S (fX0_age I o)) := by
  refine jM.of (ls := [.ref o]) (by decide) (Nat.le_of_ble_eq_true rfl) (by intro v hv; simp only [List.mem_cons, List.not_mem_nil, or_false] at hv; rcases hv with rfl <;> rfl) rfl (fun G hR => ?_)
  refine J_aload_n dX0_age_0 rfl rfl ?_
  refine J_getI dX0_age_1 flX0_21 rfl hk ?_
  refine J_iconst (1) dX0_age_4 rfl ?_
  refine J_icmp_ne (tgt := 35) dX0_age_5 (by decide) (fun h1 => ?_) (fun h1 => ?_)
  · skip
    refine J_aload_n dX0_age_35 rfl rfl ?_
    refine J_getI dX0_age_36 flX0_21 rfl hk ?_
    refine J_if_ne (tgt := 52) dX0_age_39 (by decide) (fun h2 => ?_) (fun h2 => ?_)
    · skip
      exact J_vret hR dX0_age_52 rfl (Nat.le_of_ble_eq_true rfl) (Nat.le_of_ble_eq_true rfl) (jRes_v (by first | (simp only [fX0_age, if_neg h1, if_neg h2]; done) | rfl | (simp only [fX0_age, if_neg h1, if_neg h2]; rfl)))
    · skip
      refine J_aload_n dX0_age_42 rfl rfl ?_
      refine J_dup dX0_age_43 rfl ?_
      refine J_getI dX0_age_44 flX0_24 rfl hk ?_
      refine J_iconst (1) dX0_age_47 rfl ?_
      refine J_iadd dX0_age_48 ?_
      refine J_putI dX0_age_49 flX0_24 rfl rfl rfl rfl hk ?_
      exact J_vret hR dX0_age_52 rfl (Nat.le_of_ble_eq_true rfl) (Nat.le_of_ble_eq_true rfl) (jRes_v (by first | (simp only [fX0_age, if_neg h1, if_pos h2]; done) | rfl | (simp only [fX0_age, if_neg h1, if_pos h2]; rfl)))
  · skip
    refine J_aload_n dX0_age_8 rfl rfl ?_
    refine J_sipush (200) dX0_age_9 rfl ?_
    refine J_aload_n dX0_age_12 rfl rfl ?_
    refine J_getI dX0_age_13 flX0_18 rfl hk ?_
    refine J_iconst (1) dX0_age_16 rfl ?_
    refine J_iadd dX0_age_17 ?_
    refine J_aload_n dX0_age_18 rfl rfl ?_
    refine J_getI dX0_age_19 flX0_15 rfl hk ?_
    refine J_bipush (10) dX0_age_22 rfl ?_
    refine J_idiv dX0_age_24 (by decide) ?_
    refine J_iadd dX0_age_25 ?_
    refine J_min dX0_age_26 jw_424 (Nat.le_of_ble_eq_true rfl) (Nat.le_of_ble_eq_true rfl) (Nat.le_of_ble_eq_true rfl) (Nat.le_of_ble_eq_true rfl) ?_
    refine J_putI dX0_age_29 flX0_18 rfl rfl rfl rfl hk ?_
    refine J_goto (tgt := 52) dX0_age_32 (by decide) ?_
    exact J_vret hR dX0_age_52 rfl (Nat.le_of_ble_eq_true rfl) (Nat.le_of_ble_eq_true rfl) (jRes_v (by first | (simp only [fX0_age, if_pos h1]; done) | rfl | (simp only [fX0_age, if_pos h1]; rfl)))
def fX0_endRepairIn (I : jI) (o : Nat) (x : Int32) : jI :=
  if (I o 3) = 2 then
    if (I o 5) ≤ x then
      (jset (jset (jset (fX0_becomeCold I o) o 2 (((fX0_becomeCold I o) o 2) / 4)) o 6 0) o 7 0)
    else
      I
  else
    I
set_option maxRecDepth 100000 in
set_option maxHeartbeats 4000000 in
theorem kX0_endRepairIn (S : jX) (I : jI) (o : Nat) (x : Int32) (hk : jKd S o 0 0) : jM (1, 0, 0) mX0_endRepairIn [.ref o, .int x] S I (jRes none S (fX0_endRepairIn I o x)) := by
  refine jM.of (ls := [.ref o, .int x]) (by decide) (Nat.le_of_ble_eq_true rfl) (by intro v hv; simp only [List.mem_cons, List.not_mem_nil, or_false] at hv; rcases hv with rfl | rfl <;> rfl) rfl (fun G hR => ?_)
  refine J_aload_n dX0_endRepairIn_0 rfl rfl ?_
  refine J_getI dX0_endRepairIn_1 flX0_21 rfl hk ?_
  refine J_iconst (2) dX0_endRepairIn_4 rfl ?_
  refine J_icmp_ne (tgt := 16) dX0_endRepairIn_5 (by decide) (fun h1 => ?_) (fun h1 => ?_)
  · skip
    exact J_vret hR dX0_endRepairIn_16 rfl (Nat.le_of_ble_eq_true rfl) (Nat.le_of_ble_eq_true rfl) (jRes_v (by first | (simp only [fX0_endRepairIn, if_neg h1]; done) | rfl | (simp only [fX0_endRepairIn, if_neg h1]; rfl)))
  · skip
    refine J_aload_n dX0_endRepairIn_8 rfl rfl ?_
    refine J_getI dX0_endRepairIn_9 flX0_27 rfl hk ?_
    refine J_iload_n dX0_endRepairIn_12 rfl ?_
    refine J_icmp_le (tgt := 17) dX0_endRepairIn_13 (by decide) (fun h2 => ?_) (fun h2 => ?_)
    · skip
      refine J_aload_n dX0_endRepairIn_17 rfl rfl ?_
      refine J_cV0 (mc := mX0_becomeCold) hk (by decide) rfl dX0_endRepairIn_18 mlX0_71 okX0_becomeCold (kX0_becomeCold S I o hk) (Nat.le_of_ble_eq_true rfl) (Nat.le_of_ble_eq_true rfl) (Nat.le_of_ble_eq_true rfl) (Nat.le_of_ble_eq_true rfl) ?_
      refine J_aload_n dX0_endRepairIn_21 rfl rfl ?_
      refine J_aload_n dX0_endRepairIn_22 rfl rfl ?_
      refine J_getI dX0_endRepairIn_23 flX0_18 rfl hk ?_
      refine J_iconst (4) dX0_endRepairIn_26 rfl ?_
      refine J_idiv dX0_endRepairIn_27 (by decide) ?_
      refine J_putI dX0_endRepairIn_28 flX0_18 rfl rfl rfl rfl hk ?_
      refine J_aload_n dX0_endRepairIn_31 rfl rfl ?_
      refine J_iconst (0) dX0_endRepairIn_32 rfl ?_
      refine J_putI dX0_endRepairIn_33 flX0_30 rfl rfl rfl rfl hk ?_
      refine J_aload_n dX0_endRepairIn_36 rfl rfl ?_
      refine J_iconst (0) dX0_endRepairIn_37 rfl ?_
      refine J_putI dX0_endRepairIn_38 flX0_34 rfl rfl rfl rfl hk ?_
      exact J_vret hR dX0_endRepairIn_41 rfl (Nat.le_of_ble_eq_true rfl) (Nat.le_of_ble_eq_true rfl) (jRes_v (by first | (simp only [fX0_endRepairIn, if_pos h1, if_pos h2]; done) | rfl | (simp only [fX0_endRepairIn, if_pos h1, if_pos h2]; rfl)))
    · skip
      exact J_vret hR dX0_endRepairIn_16 rfl (Nat.le_of_ble_eq_true rfl) (Nat.le_of_ble_eq_true rfl) (jRes_v (by first | (simp only [fX0_endRepairIn, if_pos h1, if_neg h2]; done) | rfl | (simp only [fX0_endRepairIn, if_pos h1, if_neg h2]; rfl)))
def fX0_dropWhatIsPastIn (I : jI) (o : Nat) (x : Int32) : jI :=
  if (I o 7) = 0 then
    if (I o 11) = 0 then
      I
    else
      if x ≤ (I o 13) then
        I
      else
        (jset I o 11 0)
  else
    if x ≤ (I o 10) then
      if (I o 11) = 0 then
        I
      else
        if x ≤ (I o 13) then
          I
        else
          (jset I o 11 0)
    else
      if ((jset I o 7 0) o 11) = 0 then
        (jset I o 7 0)
      else
        if x ≤ ((jset I o 7 0) o 13) then
          (jset I o 7 0)
        else
          (jset (jset I o 7 0) o 11 0)
set_option maxRecDepth 100000 in
set_option maxHeartbeats 4000000 in
theorem kX0_dropWhatIsPastIn (S : jX) (I : jI) (o : Nat) (x : Int32) (hk : jKd S o 0 0) : jM (0, 0, 0) mX0_dropWhatIsPastIn [.ref o, .int x] S I (jRes none S (fX0_dropWhatIsPastIn I o x)) := by
  refine jM.of (ls := [.ref o, .int x]) (by decide) (Nat.le_of_ble_eq_true rfl) (by intro v hv; simp only [List.mem_cons, List.not_mem_nil, or_false] at hv; rcases hv with rfl | rfl <;> rfl) rfl (fun G hR => ?_)
  refine J_aload_n dX0_dropWhatIsPastIn_0 rfl rfl ?_
  refine J_getI dX0_dropWhatIsPastIn_1 flX0_34 rfl hk ?_
  refine J_if_eq (tgt := 20) dX0_dropWhatIsPastIn_4 (by decide) (fun h1 => ?_) (fun h1 => ?_)
  · skip
    refine J_aload_n dX0_dropWhatIsPastIn_20 rfl rfl ?_
    refine J_getI dX0_dropWhatIsPastIn_21 flX0_37 rfl hk ?_
    refine J_if_eq (tgt := 40) dX0_dropWhatIsPastIn_24 (by decide) (fun h2 => ?_) (fun h2 => ?_)
    · skip
      exact J_vret hR dX0_dropWhatIsPastIn_40 rfl (Nat.le_of_ble_eq_true rfl) (Nat.le_of_ble_eq_true rfl) (jRes_v (by first | (simp only [fX0_dropWhatIsPastIn, if_pos h1, if_pos h2]; done) | rfl | (simp only [fX0_dropWhatIsPastIn, if_pos h1, if_pos h2]; rfl)))
    · skip
      refine J_aload_n dX0_dropWhatIsPastIn_27 rfl rfl ?_
      refine J_getI dX0_dropWhatIsPastIn_28 flX0_52 rfl hk ?_
      refine J_iload_n dX0_dropWhatIsPastIn_31 rfl ?_
      refine J_icmp_ge (tgt := 40) dX0_dropWhatIsPastIn_32 (by decide) (fun h3 => ?_) (fun h3 => ?_)
      · skip
        exact J_vret hR dX0_dropWhatIsPastIn_40 rfl (Nat.le_of_ble_eq_true rfl) (Nat.le_of_ble_eq_true rfl) (jRes_v (by first | (simp only [fX0_dropWhatIsPastIn, if_pos h1, if_neg h2, if_pos h3]; done) | rfl | (simp only [fX0_dropWhatIsPastIn, if_pos h1, if_neg h2, if_pos h3]; rfl)))
      · skip
        refine J_aload_n dX0_dropWhatIsPastIn_35 rfl rfl ?_
        refine J_iconst (0) dX0_dropWhatIsPastIn_36 rfl ?_
        refine J_putI dX0_dropWhatIsPastIn_37 flX0_37 rfl rfl rfl rfl hk ?_
        exact J_vret hR dX0_dropWhatIsPastIn_40 rfl (Nat.le_of_ble_eq_true rfl) (Nat.le_of_ble_eq_true rfl) (jRes_v (by first | (simp only [fX0_dropWhatIsPastIn, if_pos h1, if_neg h2, if_neg h3]; done) | rfl | (simp only [fX0_dropWhatIsPastIn, if_pos h1, if_neg h2, if_neg h3]; rfl)))
  · skip
    refine J_aload_n dX0_dropWhatIsPastIn_7 rfl rfl ?_
    refine J_getI dX0_dropWhatIsPastIn_8 flX0_46 rfl hk ?_
    refine J_iload_n dX0_dropWhatIsPastIn_11 rfl ?_
    refine J_icmp_ge (tgt := 20) dX0_dropWhatIsPastIn_12 (by decide) (fun h4 => ?_) (fun h4 => ?_)
    · skip
      refine J_aload_n dX0_dropWhatIsPastIn_20 rfl rfl ?_
      refine J_getI dX0_dropWhatIsPastIn_21 flX0_37 rfl hk ?_
      refine J_if_eq (tgt := 40) dX0_dropWhatIsPastIn_24 (by decide) (fun h5 => ?_) (fun h5 => ?_)
      · skip
        exact J_vret hR dX0_dropWhatIsPastIn_40 rfl (Nat.le_of_ble_eq_true rfl) (Nat.le_of_ble_eq_true rfl) (jRes_v (by first | (simp only [fX0_dropWhatIsPastIn, if_neg h1, if_pos h4, if_pos h5]; done) | rfl | (simp only [fX0_dropWhatIsPastIn, if_neg h1, if_pos h4, if_pos h5]; rfl)))
      · skip
        refine J_aload_n dX0_dropWhatIsPastIn_27 rfl rfl ?_
        refine J_getI dX0_dropWhatIsPastIn_28 flX0_52 rfl hk ?_
        refine J_iload_n dX0_dropWhatIsPastIn_31 rfl ?_
        refine J_icmp_ge (tgt := 40) dX0_dropWhatIsPastIn_32 (by decide) (fun h6 => ?_) (fun h6 => ?_)
        · skip
          exact J_vret hR dX0_dropWhatIsPastIn_40 rfl (Nat.le_of_ble_eq_true rfl) (Nat.le_of_ble_eq_true rfl) (jRes_v (by first | (simp only [fX0_dropWhatIsPastIn, if_neg h1, if_pos h4, if_neg h5, if_pos h6]; done) | rfl | (simp only [fX0_dropWhatIsPastIn, if_neg h1, if_pos h4, if_neg h5, if_pos h6]; rfl)))
        · skip
          refine J_aload_n dX0_dropWhatIsPastIn_35 rfl rfl ?_
          refine J_iconst (0) dX0_dropWhatIsPastIn_36 rfl ?_
          refine J_putI dX0_dropWhatIsPastIn_37 flX0_37 rfl rfl rfl rfl hk ?_
          exact J_vret hR dX0_dropWhatIsPastIn_40 rfl (Nat.le_of_ble_eq_true rfl) (Nat.le_of_ble_eq_true rfl) (jRes_v (by first | (simp only [fX0_dropWhatIsPastIn, if_neg h1, if_pos h4, if_neg h5, if_neg h6]; done) | rfl | (simp only [fX0_dropWhatIsPastIn, if_neg h1, if_pos h4, if_neg h5, if_neg h6]; rfl)))
    · skip
      refine J_aload_n dX0_dropWhatIsPastIn_15 rfl rfl ?_
      refine J_iconst (0) dX0_dropWhatIsPastIn_16 rfl ?_
      refine J_putI dX0_dropWhatIsPastIn_17 flX0_34 rfl rfl rfl rfl hk ?_
      refine J_aload_n dX0_dropWhatIsPastIn_20 rfl rfl ?_
      refine J_getI dX0_dropWhatIsPastIn_21 flX0_37 rfl hk ?_
      refine J_if_eq (tgt := 40) dX0_dropWhatIsPastIn_24 (by decide) (fun h7 => ?_) (fun h7 => ?_)
      · skip
        exact J_vret hR dX0_dropWhatIsPastIn_40 rfl (Nat.le_of_ble_eq_true rfl) (Nat.le_of_ble_eq_true rfl) (jRes_v (by first | (simp only [fX0_dropWhatIsPastIn, if_neg h1, if_neg h4, if_pos h7]; done) | rfl | (simp only [fX0_dropWhatIsPastIn, if_neg h1, if_neg h4, if_pos h7]; rfl)))
      · skip
        refine J_aload_n dX0_dropWhatIsPastIn_27 rfl rfl ?_
        refine J_getI dX0_dropWhatIsPastIn_28 flX0_52 rfl hk ?_
        refine J_iload_n dX0_dropWhatIsPastIn_31 rfl ?_
        refine J_icmp_ge (tgt := 40) dX0_dropWhatIsPastIn_32 (by decide) (fun h8 => ?_) (fun h8 => ?_)
        · skip
          exact J_vret hR dX0_dropWhatIsPastIn_40 rfl (Nat.le_of_ble_eq_true rfl) (Nat.le_of_ble_eq_true rfl) (jRes_v (by first | (simp only [fX0_dropWhatIsPastIn, if_neg h1, if_neg h4, if_neg h7, if_pos h8]; done) | rfl | (simp only [fX0_dropWhatIsPastIn, if_neg h1, if_neg h4, if_neg h7, if_pos h8]; rfl)))
        · skip
          refine J_aload_n dX0_dropWhatIsPastIn_35 rfl rfl ?_
          refine J_iconst (0) dX0_dropWhatIsPastIn_36 rfl ?_
          refine J_putI dX0_dropWhatIsPastIn_37 flX0_37 rfl rfl rfl rfl hk ?_
          exact J_vret hR dX0_dropWhatIsPastIn_40 rfl (Nat.le_of_ble_eq_true rfl) (Nat.le_of_ble_eq_true rfl) (jRes_v (by first | (simp only [fX0_dropWhatIsPastIn, if_neg h1, if_neg h4, if_neg h7, if_neg h8]; done) | rfl | (simp only [fX0_dropWhatIsPastIn, if_neg h1, if_neg h4, if_neg h7, if_neg h8]; rfl)))
def fX0_mustGoOutIn (I : jI) (o : Nat) (x : Int32) : Int32 :=
  if (I o 3) = 1 then
    if (I o 7) = 0 then
      1
    else
      if (fX0_isShutIn I o x) = 0 then
        0
      else
        1
  else
    0
set_option maxRecDepth 100000 in
set_option maxHeartbeats 4000000 in
theorem kX0_mustGoOutIn (S : jX) (I : jI) (o : Nat) (x : Int32) (hk : jKd S o 0 0) : jM (1, 0, 0) mX0_mustGoOutIn [.ref o, .int x] S I (jRes (some (.int (fX0_mustGoOutIn I o x))) S I) := by
  refine jM.of (ls := [.ref o, .int x]) (by decide) (Nat.le_of_ble_eq_true rfl) (by intro v hv; simp only [List.mem_cons, List.not_mem_nil, or_false] at hv; rcases hv with rfl | rfl <;> rfl) rfl (fun G hR => ?_)
  refine J_aload_n dX0_mustGoOutIn_0 rfl rfl ?_
  refine J_getI dX0_mustGoOutIn_1 flX0_21 rfl hk ?_
  refine J_iconst (1) dX0_mustGoOutIn_4 rfl ?_
  refine J_icmp_ne (tgt := 27) dX0_mustGoOutIn_5 (by decide) (fun h1 => ?_) (fun h1 => ?_)
  · skip
    refine J_iconst (0) dX0_mustGoOutIn_27 rfl ?_
    exact J_iret (ty := .boolean) hR dX0_mustGoOutIn_28 rfl rfl (Nat.le_of_ble_eq_true rfl) (Nat.le_of_ble_eq_true rfl) (jRes_i (by first | (simp only [fX0_mustGoOutIn, if_neg h1]; done) | rfl | (simp only [fX0_mustGoOutIn, if_neg h1]; rfl)) rfl)
  · skip
    refine J_aload_n dX0_mustGoOutIn_8 rfl rfl ?_
    refine J_getI dX0_mustGoOutIn_9 flX0_34 rfl hk ?_
    refine J_if_eq (tgt := 23) dX0_mustGoOutIn_12 (by decide) (fun h2 => ?_) (fun h2 => ?_)
    · skip
      refine J_iconst (1) dX0_mustGoOutIn_23 rfl ?_
      refine J_goto (tgt := 28) dX0_mustGoOutIn_24 (by decide) ?_
      exact J_iret (ty := .boolean) hR dX0_mustGoOutIn_28 rfl rfl (Nat.le_of_ble_eq_true rfl) (Nat.le_of_ble_eq_true rfl) (jRes_i (by first | (simp only [fX0_mustGoOutIn, if_pos h1, if_pos h2]; done) | rfl | (simp only [fX0_mustGoOutIn, if_pos h1, if_pos h2]; rfl)) rfl)
    · skip
      refine J_aload_n dX0_mustGoOutIn_15 rfl rfl ?_
      refine J_iload_n dX0_mustGoOutIn_16 rfl ?_
      refine J_cV1r (mc := mX0_isShutIn) hk (by decide) rfl dX0_mustGoOutIn_17 mlX0_55 okX0_isShutIn (kX0_isShutIn S I o x hk) (Nat.le_of_ble_eq_true rfl) (Nat.le_of_ble_eq_true rfl) (Nat.le_of_ble_eq_true rfl) (Nat.le_of_ble_eq_true rfl) ?_
      refine J_if_eq (tgt := 27) dX0_mustGoOutIn_20 (by decide) (fun h3 => ?_) (fun h3 => ?_)
      · skip
        refine J_iconst (0) dX0_mustGoOutIn_27 rfl ?_
        exact J_iret (ty := .boolean) hR dX0_mustGoOutIn_28 rfl rfl (Nat.le_of_ble_eq_true rfl) (Nat.le_of_ble_eq_true rfl) (jRes_i (by first | (simp only [fX0_mustGoOutIn, if_pos h1, if_neg h2, if_pos h3]; done) | rfl | (simp only [fX0_mustGoOutIn, if_pos h1, if_neg h2, if_pos h3]; rfl)) rfl)
      · skip
        refine J_iconst (1) dX0_mustGoOutIn_23 rfl ?_
        refine J_goto (tgt := 28) dX0_mustGoOutIn_24 (by decide) ?_
        exact J_iret (ty := .boolean) hR dX0_mustGoOutIn_28 rfl rfl (Nat.le_of_ble_eq_true rfl) (Nat.le_of_ble_eq_true rfl) (jRes_i (by first | (simp only [fX0_mustGoOutIn, if_pos h1, if_neg h2, if_neg h3]; done) | rfl | (simp only [fX0_mustGoOutIn, if_pos h1, if_neg h2, if_neg h3]; rfl)) rfl)
def fX0_weeksUntilPutOut (I : jI) (o : Nat) (x : Int32) : Int32 :=
  if (I o 3) = 1 then
    if (I o 11) = 0 then
      (((I o 10) + 1) - x)
    else
      (if ((I o 12) - x) < (((I o 10) + 1) - x) then ((I o 12) - x) else (((I o 10) + 1) - x))
  else
    (-2000000002)
set_option maxRecDepth 100000 in
set_option maxHeartbeats 4000000 in
theorem kX0_weeksUntilPutOut (S : jX) (I : jI) (o : Nat) (x : Int32) (hk : jKd S o 0 0) : jM (1, 0, 0) mX0_weeksUntilPutOut [.ref o, .int x] S I (jRes (some (.int (fX0_weeksUntilPutOut I o x))) S I) := by
  refine jM.of (ls := [.ref o, .int x, .long 0]) (by decide) (Nat.le_of_ble_eq_true rfl) (by intro v hv; simp only [List.mem_cons, List.not_mem_nil, or_false] at hv; rcases hv with rfl | rfl <;> rfl) rfl (fun G hR => ?_)
  refine J_aload_n dX0_weeksUntilPutOut_0 rfl rfl ?_
  refine J_getI dX0_weeksUntilPutOut_1 flX0_21 rfl hk ?_
  refine J_iconst (1) dX0_weeksUntilPutOut_4 rfl ?_
  refine J_icmp_eq (tgt := 11) dX0_weeksUntilPutOut_5 (by decide) (fun h1 => ?_) (fun h1 => ?_)
  · skip
    refine J_aload_n dX0_weeksUntilPutOut_11 rfl rfl ?_
    refine J_getI dX0_weeksUntilPutOut_12 flX0_46 rfl hk ?_
    refine J_iconst (1) dX0_weeksUntilPutOut_15 rfl ?_
    refine J_iadd dX0_weeksUntilPutOut_16 ?_
    refine J_iload_n dX0_weeksUntilPutOut_17 rfl ?_
    refine J_isub dX0_weeksUntilPutOut_18 ?_
    refine J_istore_n dX0_weeksUntilPutOut_19 (Nat.le_of_ble_eq_true rfl) ?_
    refine J_aload_n dX0_weeksUntilPutOut_20 rfl rfl ?_
    refine J_getI dX0_weeksUntilPutOut_21 flX0_37 rfl hk ?_
    refine J_if_eq (tgt := 40) dX0_weeksUntilPutOut_24 (by decide) (fun h2 => ?_) (fun h2 => ?_)
    · skip
      refine J_iload_n dX0_weeksUntilPutOut_40 rfl ?_
      exact J_iret (ty := .int) hR dX0_weeksUntilPutOut_41 rfl rfl (Nat.le_of_ble_eq_true rfl) (Nat.le_of_ble_eq_true rfl) (jRes_i (by first | (simp only [fX0_weeksUntilPutOut, if_pos h1, if_pos h2]; done) | rfl | (simp only [fX0_weeksUntilPutOut, if_pos h1, if_pos h2]; rfl)) rfl)
    · skip
      refine J_iload_n dX0_weeksUntilPutOut_27 rfl ?_
      refine J_aload_n dX0_weeksUntilPutOut_28 rfl rfl ?_
      refine J_getI dX0_weeksUntilPutOut_29 flX0_49 rfl hk ?_
      refine J_iload_n dX0_weeksUntilPutOut_32 rfl ?_
      refine J_isub dX0_weeksUntilPutOut_33 ?_
      refine J_min dX0_weeksUntilPutOut_34 jw_424 (Nat.le_of_ble_eq_true rfl) (Nat.le_of_ble_eq_true rfl) (Nat.le_of_ble_eq_true rfl) (Nat.le_of_ble_eq_true rfl) ?_
      refine J_goto (tgt := 41) dX0_weeksUntilPutOut_37 (by decide) ?_
      exact J_iret (ty := .int) hR dX0_weeksUntilPutOut_41 rfl rfl (Nat.le_of_ble_eq_true rfl) (Nat.le_of_ble_eq_true rfl) (jRes_i (by first | (simp only [fX0_weeksUntilPutOut, if_pos h1, if_neg h2]; done) | rfl | (simp only [fX0_weeksUntilPutOut, if_pos h1, if_neg h2]; rfl)) rfl)
  · skip
    refine J_ldc (-2000000002) dX0_weeksUntilPutOut_8 jw_550 ?_
    exact J_iret (ty := .int) hR dX0_weeksUntilPutOut_10 rfl rfl (Nat.le_of_ble_eq_true rfl) (Nat.le_of_ble_eq_true rfl) (jRes_i (by first | (simp only [fX0_weeksUntilPutOut, if_neg h1]; done) | rfl | (simp only [fX0_weeksUntilPutOut, if_neg h1]; rfl)) rfl)
def fX0_fact (I : jI) (o : Nat) (x : Int32) (y : Int32) : Int32 :=
  if x = 0 then
    (I o 0)
  else
    if x = 1 then
      (I o 1)
    else
      if x = 2 then
        (I o 2)
      else
        if x = 3 then
          (I o 3)
        else
          if x = 4 then
            if (I o 3) = 0 then
              (I o 4)
            else
              (-2000000004)
          else
            if x = 5 then
              if (I o 3) = 2 then
                ((I o 5) - y)
              else
                (-2000000004)
            else
              if x = 6 then
                if (I o 6) = 0 then
                  0
                else
                  1
              else
                if x = 7 then
                  if (I o 11) = 0 then
                    (-2000000004)
                  else
                    (I o 12)
                else
                  if x = 8 then
                    if (I o 11) = 0 then
                      (-2000000004)
                    else
                      (I o 13)
                  else
                    if x = 9 then
                      (fX0_strength I o)
                    else
                      (-2000000001)
set_option maxRecDepth 100000 in
set_option maxHeartbeats 4000000 in
theorem kX0_fact (S : jX) (I : jI) (o : Nat) (x : Int32) (y : Int32) (hk : jKd S o 0 0) : jM (1, 0, 0) mX0_fact [.ref o, .int x, .int y] S I (jRes (some (.int (fX0_fact I o x y))) S I) := by
  refine jM.of (ls := [.ref o, .int x, .int y]) (by decide) (Nat.le_of_ble_eq_true rfl) (by intro v hv; simp only [List.mem_cons, List.not_mem_nil, or_false] at hv; rcases hv with rfl | rfl | rfl <;> rfl) rfl (fun G hR => ?_)
  refine J_iload_n dX0_fact_0 rfl ?_
  by_cases h1 : x = 0
  · skip
    refine J_tabIn (off := 55) (tgt := 56) dX0_fact_1 (by rw [h1]; decide) (by rw [h1]; decide) (by rw [h1]; rfl) (by decide) ?_
    refine J_aload_n dX0_fact_56 rfl rfl ?_
    refine J_getI dX0_fact_57 flX0_9 rfl hk ?_
    exact J_iret (ty := .int) hR dX0_fact_60 rfl rfl (Nat.le_of_ble_eq_true rfl) (Nat.le_of_ble_eq_true rfl) (jRes_i (by first | (simp only [fX0_fact, if_pos h1]; done) | rfl | (simp only [fX0_fact, if_pos h1]; rfl)) rfl)
  by_cases h2 : x = 1
  · skip
    refine J_tabIn (off := 60) (tgt := 61) dX0_fact_1 (by rw [h2]; decide) (by rw [h2]; decide) (by rw [h2]; rfl) (by decide) ?_
    refine J_aload_n dX0_fact_61 rfl rfl ?_
    refine J_getI dX0_fact_62 flX0_15 rfl hk ?_
    exact J_iret (ty := .int) hR dX0_fact_65 rfl rfl (Nat.le_of_ble_eq_true rfl) (Nat.le_of_ble_eq_true rfl) (jRes_i (by first | (simp only [fX0_fact, if_neg h1, if_pos h2]; done) | rfl | (simp only [fX0_fact, if_neg h1, if_pos h2]; rfl)) rfl)
  by_cases h3 : x = 2
  · skip
    refine J_tabIn (off := 65) (tgt := 66) dX0_fact_1 (by rw [h3]; decide) (by rw [h3]; decide) (by rw [h3]; rfl) (by decide) ?_
    refine J_aload_n dX0_fact_66 rfl rfl ?_
    refine J_getI dX0_fact_67 flX0_18 rfl hk ?_
    exact J_iret (ty := .int) hR dX0_fact_70 rfl rfl (Nat.le_of_ble_eq_true rfl) (Nat.le_of_ble_eq_true rfl) (jRes_i (by first | (simp only [fX0_fact, if_neg h1, if_neg h2, if_pos h3]; done) | rfl | (simp only [fX0_fact, if_neg h1, if_neg h2, if_pos h3]; rfl)) rfl)
  by_cases h4 : x = 3
  · skip
    refine J_tabIn (off := 70) (tgt := 71) dX0_fact_1 (by rw [h4]; decide) (by rw [h4]; decide) (by rw [h4]; rfl) (by decide) ?_
    refine J_aload_n dX0_fact_71 rfl rfl ?_
    refine J_getI dX0_fact_72 flX0_21 rfl hk ?_
    exact J_iret (ty := .int) hR dX0_fact_75 rfl rfl (Nat.le_of_ble_eq_true rfl) (Nat.le_of_ble_eq_true rfl) (jRes_i (by first | (simp only [fX0_fact, if_neg h1, if_neg h2, if_neg h3, if_pos h4]; done) | rfl | (simp only [fX0_fact, if_neg h1, if_neg h2, if_neg h3, if_pos h4]; rfl)) rfl)
  by_cases h5 : x = 4
  · skip
    refine J_tabIn (off := 75) (tgt := 76) dX0_fact_1 (by rw [h5]; decide) (by rw [h5]; decide) (by rw [h5]; rfl) (by decide) ?_
    refine J_aload_n dX0_fact_76 rfl rfl ?_
    refine J_getI dX0_fact_77 flX0_21 rfl hk ?_
    refine J_if_ne (tgt := 90) dX0_fact_80 (by decide) (fun h6 => ?_) (fun h6 => ?_)
    · skip
      refine J_ldc (-2000000004) dX0_fact_90 jw_460 ?_
      exact J_iret (ty := .int) hR dX0_fact_92 rfl rfl (Nat.le_of_ble_eq_true rfl) (Nat.le_of_ble_eq_true rfl) (jRes_i (by first | (simp only [fX0_fact, if_neg h1, if_neg h2, if_neg h3, if_neg h4, if_pos h5, if_neg h6]; done) | rfl | (simp only [fX0_fact, if_neg h1, if_neg h2, if_neg h3, if_neg h4, if_pos h5, if_neg h6]; rfl)) rfl)
    · skip
      refine J_aload_n dX0_fact_83 rfl rfl ?_
      refine J_getI dX0_fact_84 flX0_24 rfl hk ?_
      refine J_goto (tgt := 92) dX0_fact_87 (by decide) ?_
      exact J_iret (ty := .int) hR dX0_fact_92 rfl rfl (Nat.le_of_ble_eq_true rfl) (Nat.le_of_ble_eq_true rfl) (jRes_i (by first | (simp only [fX0_fact, if_neg h1, if_neg h2, if_neg h3, if_neg h4, if_pos h5, if_pos h6]; done) | rfl | (simp only [fX0_fact, if_neg h1, if_neg h2, if_neg h3, if_neg h4, if_pos h5, if_pos h6]; rfl)) rfl)
  by_cases h7 : x = 5
  · skip
    refine J_tabIn (off := 92) (tgt := 93) dX0_fact_1 (by rw [h7]; decide) (by rw [h7]; decide) (by rw [h7]; rfl) (by decide) ?_
    refine J_aload_n dX0_fact_93 rfl rfl ?_
    refine J_getI dX0_fact_94 flX0_21 rfl hk ?_
    refine J_iconst (2) dX0_fact_97 rfl ?_
    refine J_icmp_ne (tgt := 110) dX0_fact_98 (by decide) (fun h8 => ?_) (fun h8 => ?_)
    · skip
      refine J_ldc (-2000000004) dX0_fact_110 jw_460 ?_
      exact J_iret (ty := .int) hR dX0_fact_112 rfl rfl (Nat.le_of_ble_eq_true rfl) (Nat.le_of_ble_eq_true rfl) (jRes_i (by first | (simp only [fX0_fact, if_neg h1, if_neg h2, if_neg h3, if_neg h4, if_neg h5, if_pos h7, if_neg h8]; done) | rfl | (simp only [fX0_fact, if_neg h1, if_neg h2, if_neg h3, if_neg h4, if_neg h5, if_pos h7, if_neg h8]; rfl)) rfl)
    · skip
      refine J_aload_n dX0_fact_101 rfl rfl ?_
      refine J_getI dX0_fact_102 flX0_27 rfl hk ?_
      refine J_iload_n dX0_fact_105 rfl ?_
      refine J_isub dX0_fact_106 ?_
      refine J_goto (tgt := 112) dX0_fact_107 (by decide) ?_
      exact J_iret (ty := .int) hR dX0_fact_112 rfl rfl (Nat.le_of_ble_eq_true rfl) (Nat.le_of_ble_eq_true rfl) (jRes_i (by first | (simp only [fX0_fact, if_neg h1, if_neg h2, if_neg h3, if_neg h4, if_neg h5, if_pos h7, if_pos h8]; done) | rfl | (simp only [fX0_fact, if_neg h1, if_neg h2, if_neg h3, if_neg h4, if_neg h5, if_pos h7, if_pos h8]; rfl)) rfl)
  by_cases h9 : x = 6
  · skip
    refine J_tabIn (off := 112) (tgt := 113) dX0_fact_1 (by rw [h9]; decide) (by rw [h9]; decide) (by rw [h9]; rfl) (by decide) ?_
    refine J_aload_n dX0_fact_113 rfl rfl ?_
    refine J_getI dX0_fact_114 flX0_30 rfl hk ?_
    refine J_if_eq (tgt := 124) dX0_fact_117 (by decide) (fun h10 => ?_) (fun h10 => ?_)
    · skip
      refine J_iconst (0) dX0_fact_124 rfl ?_
      exact J_iret (ty := .int) hR dX0_fact_125 rfl rfl (Nat.le_of_ble_eq_true rfl) (Nat.le_of_ble_eq_true rfl) (jRes_i (by first | (simp only [fX0_fact, if_neg h1, if_neg h2, if_neg h3, if_neg h4, if_neg h5, if_neg h7, if_pos h9, if_pos h10]; done) | rfl | (simp only [fX0_fact, if_neg h1, if_neg h2, if_neg h3, if_neg h4, if_neg h5, if_neg h7, if_pos h9, if_pos h10]; rfl)) rfl)
    · skip
      refine J_iconst (1) dX0_fact_120 rfl ?_
      refine J_goto (tgt := 125) dX0_fact_121 (by decide) ?_
      exact J_iret (ty := .int) hR dX0_fact_125 rfl rfl (Nat.le_of_ble_eq_true rfl) (Nat.le_of_ble_eq_true rfl) (jRes_i (by first | (simp only [fX0_fact, if_neg h1, if_neg h2, if_neg h3, if_neg h4, if_neg h5, if_neg h7, if_pos h9, if_neg h10]; done) | rfl | (simp only [fX0_fact, if_neg h1, if_neg h2, if_neg h3, if_neg h4, if_neg h5, if_neg h7, if_pos h9, if_neg h10]; rfl)) rfl)
  by_cases h11 : x = 7
  · skip
    refine J_tabIn (off := 125) (tgt := 126) dX0_fact_1 (by rw [h11]; decide) (by rw [h11]; decide) (by rw [h11]; rfl) (by decide) ?_
    refine J_aload_n dX0_fact_126 rfl rfl ?_
    refine J_getI dX0_fact_127 flX0_37 rfl hk ?_
    refine J_if_eq (tgt := 140) dX0_fact_130 (by decide) (fun h12 => ?_) (fun h12 => ?_)
    · skip
      refine J_ldc (-2000000004) dX0_fact_140 jw_460 ?_
      exact J_iret (ty := .int) hR dX0_fact_142 rfl rfl (Nat.le_of_ble_eq_true rfl) (Nat.le_of_ble_eq_true rfl) (jRes_i (by first | (simp only [fX0_fact, if_neg h1, if_neg h2, if_neg h3, if_neg h4, if_neg h5, if_neg h7, if_neg h9, if_pos h11, if_pos h12]; done) | rfl | (simp only [fX0_fact, if_neg h1, if_neg h2, if_neg h3, if_neg h4, if_neg h5, if_neg h7, if_neg h9, if_pos h11, if_pos h12]; rfl)) rfl)
    · skip
      refine J_aload_n dX0_fact_133 rfl rfl ?_
      refine J_getI dX0_fact_134 flX0_49 rfl hk ?_
      refine J_goto (tgt := 142) dX0_fact_137 (by decide) ?_
      exact J_iret (ty := .int) hR dX0_fact_142 rfl rfl (Nat.le_of_ble_eq_true rfl) (Nat.le_of_ble_eq_true rfl) (jRes_i (by first | (simp only [fX0_fact, if_neg h1, if_neg h2, if_neg h3, if_neg h4, if_neg h5, if_neg h7, if_neg h9, if_pos h11, if_neg h12]; done) | rfl | (simp only [fX0_fact, if_neg h1, if_neg h2, if_neg h3, if_neg h4, if_neg h5, if_neg h7, if_neg h9, if_pos h11, if_neg h12]; rfl)) rfl)
  by_cases h13 : x = 8
  · skip
    refine J_tabIn (off := 142) (tgt := 143) dX0_fact_1 (by rw [h13]; decide) (by rw [h13]; decide) (by rw [h13]; rfl) (by decide) ?_
    refine J_aload_n dX0_fact_143 rfl rfl ?_
    refine J_getI dX0_fact_144 flX0_37 rfl hk ?_
    refine J_if_eq (tgt := 157) dX0_fact_147 (by decide) (fun h14 => ?_) (fun h14 => ?_)
    · skip
      refine J_ldc (-2000000004) dX0_fact_157 jw_460 ?_
      exact J_iret (ty := .int) hR dX0_fact_159 rfl rfl (Nat.le_of_ble_eq_true rfl) (Nat.le_of_ble_eq_true rfl) (jRes_i (by first | (simp only [fX0_fact, if_neg h1, if_neg h2, if_neg h3, if_neg h4, if_neg h5, if_neg h7, if_neg h9, if_neg h11, if_pos h13, if_pos h14]; done) | rfl | (simp only [fX0_fact, if_neg h1, if_neg h2, if_neg h3, if_neg h4, if_neg h5, if_neg h7, if_neg h9, if_neg h11, if_pos h13, if_pos h14]; rfl)) rfl)
    · skip
      refine J_aload_n dX0_fact_150 rfl rfl ?_
      refine J_getI dX0_fact_151 flX0_52 rfl hk ?_
      refine J_goto (tgt := 159) dX0_fact_154 (by decide) ?_
      exact J_iret (ty := .int) hR dX0_fact_159 rfl rfl (Nat.le_of_ble_eq_true rfl) (Nat.le_of_ble_eq_true rfl) (jRes_i (by first | (simp only [fX0_fact, if_neg h1, if_neg h2, if_neg h3, if_neg h4, if_neg h5, if_neg h7, if_neg h9, if_neg h11, if_pos h13, if_neg h14]; done) | rfl | (simp only [fX0_fact, if_neg h1, if_neg h2, if_neg h3, if_neg h4, if_neg h5, if_neg h7, if_neg h9, if_neg h11, if_pos h13, if_neg h14]; rfl)) rfl)
  by_cases h15 : x = 9
  · skip
    refine J_tabIn (off := 159) (tgt := 160) dX0_fact_1 (by rw [h15]; decide) (by rw [h15]; decide) (by rw [h15]; rfl) (by decide) ?_
    refine J_aload_n dX0_fact_160 rfl rfl ?_
    refine J_cV0r (mc := mX0_strength) hk (by decide) rfl dX0_fact_161 mlX0_76 okX0_strength (kX0_strength S I o hk) (Nat.le_of_ble_eq_true rfl) (Nat.le_of_ble_eq_true rfl) (Nat.le_of_ble_eq_true rfl) (Nat.le_of_ble_eq_true rfl) ?_
    exact J_iret (ty := .int) hR dX0_fact_164 rfl rfl (Nat.le_of_ble_eq_true rfl) (Nat.le_of_ble_eq_true rfl) (jRes_i (by first | (simp only [fX0_fact, if_neg h1, if_neg h2, if_neg h3, if_neg h4, if_neg h5, if_neg h7, if_neg h9, if_neg h11, if_neg h13, if_pos h15]; done) | rfl | (simp only [fX0_fact, if_neg h1, if_neg h2, if_neg h3, if_neg h4, if_neg h5, if_neg h7, if_neg h9, if_neg h11, if_neg h13, if_pos h15]; rfl)) rfl)
  refine J_tabOut (tgt := 165) dX0_fact_1 (by have e0 := lv_neT h1 (a := 0) rfl; have e1 := lv_neT h2 (a := 1) rfl; have e2 := lv_neT h3 (a := 2) rfl; have e3 := lv_neT h4 (a := 3) rfl; have e4 := lv_neT h5 (a := 4) rfl; have e5 := lv_neT h7 (a := 5) rfl; have e6 := lv_neT h9 (a := 6) rfl; have e7 := lv_neT h11 (a := 7) rfl; have e8 := lv_neT h13 (a := 8) rfl; have e9 := lv_neT h15 (a := 9) rfl; omega) (by decide) ?_
  refine J_ldc (-2000000001) dX0_fact_165 jw_462 ?_
  exact J_iret (ty := .int) hR dX0_fact_167 rfl rfl (Nat.le_of_ble_eq_true rfl) (Nat.le_of_ble_eq_true rfl) (jRes_i (by first | (simp only [fX0_fact, if_neg h1, if_neg h2, if_neg h3, if_neg h4, if_neg h5, if_neg h7, if_neg h9, if_neg h11, if_neg h13, if_neg h15]; done) | rfl | (simp only [fX0_fact, if_neg h1, if_neg h2, if_neg h3, if_neg h4, if_neg h5, if_neg h7, if_neg h9, if_neg h11, if_neg h13, if_neg h15]; rfl)) rfl)
def fX0_factOfPaper (I : jI) (o : Nat) (x : Int32) : Int32 :=
  if x < 0 then
    (-2000000001)
  else
    if x ≤ 2 then
      if (I o 7) = 0 then
        (-2000000004)
      else
        if x = 0 then
          (I o 8)
        else
          if x = 1 then
            (I o 9)
          else
            (I o 10)
    else
      (-2000000001)
set_option maxRecDepth 100000 in
set_option maxHeartbeats 4000000 in
theorem kX0_factOfPaper (S : jX) (I : jI) (o : Nat) (x : Int32) (hk : jKd S o 0 0) : jM (0, 0, 0) mX0_factOfPaper [.ref o, .int x] S I (jRes (some (.int (fX0_factOfPaper I o x))) S I) := by
  refine jM.of (ls := [.ref o, .int x]) (by decide) (Nat.le_of_ble_eq_true rfl) (by intro v hv; simp only [List.mem_cons, List.not_mem_nil, or_false] at hv; rcases hv with rfl | rfl <;> rfl) rfl (fun G hR => ?_)
  refine J_iload_n dX0_factOfPaper_0 rfl ?_
  refine J_if_lt (tgt := 9) dX0_factOfPaper_1 (by decide) (fun h1 => ?_) (fun h1 => ?_)
  · skip
    refine J_ldc (-2000000001) dX0_factOfPaper_9 jw_462 ?_
    exact J_iret (ty := .int) hR dX0_factOfPaper_11 rfl rfl (Nat.le_of_ble_eq_true rfl) (Nat.le_of_ble_eq_true rfl) (jRes_i (by first | (simp only [fX0_factOfPaper, if_pos h1]; done) | rfl | (simp only [fX0_factOfPaper, if_pos h1]; rfl)) rfl)
  · skip
    refine J_iload_n dX0_factOfPaper_4 rfl ?_
    refine J_iconst (2) dX0_factOfPaper_5 rfl ?_
    refine J_icmp_le (tgt := 12) dX0_factOfPaper_6 (by decide) (fun h2 => ?_) (fun h2 => ?_)
    · skip
      refine J_aload_n dX0_factOfPaper_12 rfl rfl ?_
      refine J_getI dX0_factOfPaper_13 flX0_34 rfl hk ?_
      refine J_if_ne (tgt := 22) dX0_factOfPaper_16 (by decide) (fun h3 => ?_) (fun h3 => ?_)
      · skip
        refine J_iload_n dX0_factOfPaper_22 rfl ?_
        refine J_if_ne (tgt := 31) dX0_factOfPaper_23 (by decide) (fun h4 => ?_) (fun h4 => ?_)
        · skip
          refine J_iload_n dX0_factOfPaper_31 rfl ?_
          refine J_iconst (1) dX0_factOfPaper_32 rfl ?_
          refine J_icmp_ne (tgt := 43) dX0_factOfPaper_33 (by decide) (fun h5 => ?_) (fun h5 => ?_)
          · skip
            refine J_aload_n dX0_factOfPaper_43 rfl rfl ?_
            refine J_getI dX0_factOfPaper_44 flX0_46 rfl hk ?_
            exact J_iret (ty := .int) hR dX0_factOfPaper_47 rfl rfl (Nat.le_of_ble_eq_true rfl) (Nat.le_of_ble_eq_true rfl) (jRes_i (by first | (simp only [fX0_factOfPaper, if_neg h1, if_pos h2, if_neg h3, if_neg h4, if_neg h5]; done) | rfl | (simp only [fX0_factOfPaper, if_neg h1, if_pos h2, if_neg h3, if_neg h4, if_neg h5]; rfl)) rfl)
          · skip
            refine J_aload_n dX0_factOfPaper_36 rfl rfl ?_
            refine J_getI dX0_factOfPaper_37 flX0_43 rfl hk ?_
            refine J_goto (tgt := 47) dX0_factOfPaper_40 (by decide) ?_
            exact J_iret (ty := .int) hR dX0_factOfPaper_47 rfl rfl (Nat.le_of_ble_eq_true rfl) (Nat.le_of_ble_eq_true rfl) (jRes_i (by first | (simp only [fX0_factOfPaper, if_neg h1, if_pos h2, if_neg h3, if_neg h4, if_pos h5]; done) | rfl | (simp only [fX0_factOfPaper, if_neg h1, if_pos h2, if_neg h3, if_neg h4, if_pos h5]; rfl)) rfl)
        · skip
          refine J_aload_n dX0_factOfPaper_26 rfl rfl ?_
          refine J_getI dX0_factOfPaper_27 flX0_40 rfl hk ?_
          exact J_iret (ty := .int) hR dX0_factOfPaper_30 rfl rfl (Nat.le_of_ble_eq_true rfl) (Nat.le_of_ble_eq_true rfl) (jRes_i (by first | (simp only [fX0_factOfPaper, if_neg h1, if_pos h2, if_neg h3, if_pos h4]; done) | rfl | (simp only [fX0_factOfPaper, if_neg h1, if_pos h2, if_neg h3, if_pos h4]; rfl)) rfl)
      · skip
        refine J_ldc (-2000000004) dX0_factOfPaper_19 jw_460 ?_
        exact J_iret (ty := .int) hR dX0_factOfPaper_21 rfl rfl (Nat.le_of_ble_eq_true rfl) (Nat.le_of_ble_eq_true rfl) (jRes_i (by first | (simp only [fX0_factOfPaper, if_neg h1, if_pos h2, if_pos h3]; done) | rfl | (simp only [fX0_factOfPaper, if_neg h1, if_pos h2, if_pos h3]; rfl)) rfl)
    · skip
      refine J_ldc (-2000000001) dX0_factOfPaper_9 jw_462 ?_
      exact J_iret (ty := .int) hR dX0_factOfPaper_11 rfl rfl (Nat.le_of_ble_eq_true rfl) (Nat.le_of_ble_eq_true rfl) (jRes_i (by first | (simp only [fX0_factOfPaper, if_neg h1, if_neg h2]; done) | rfl | (simp only [fX0_factOfPaper, if_neg h1, if_neg h2]; rfl)) rfl)
def fX3_begin (I : jI) (o : Nat) (x : Int32) (y : Int32) : jI :=
  (jset (jset (jset (jset (jset I o 0 x) o 1 y) o 2 0) o 3 0) o 4 0)
set_option maxRecDepth 100000 in
set_option maxHeartbeats 4000000 in
theorem kX3_begin (S : jX) (I : jI) (o : Nat) (x : Int32) (y : Int32) (hk : jKd S o 3 0) : jM (0, 0, 0) mX3_begin [.ref o, .int x, .int y] S I (jRes none S (fX3_begin I o x y)) := by
  refine jM.of (ls := [.ref o, .int x, .int y]) (by decide) (Nat.le_of_ble_eq_true rfl) (by intro v hv; simp only [List.mem_cons, List.not_mem_nil, or_false] at hv; rcases hv with rfl | rfl | rfl <;> rfl) rfl (fun G hR => ?_)
  refine J_aload_n dX3_begin_0 rfl rfl ?_
  refine J_iload_n dX3_begin_1 rfl ?_
  refine J_putI dX3_begin_2 flX3_9 rfl rfl rfl rfl hk ?_
  refine J_aload_n dX3_begin_5 rfl rfl ?_
  refine J_iload_n dX3_begin_6 rfl ?_
  refine J_putI dX3_begin_7 flX3_15 rfl rfl rfl rfl hk ?_
  refine J_aload_n dX3_begin_10 rfl rfl ?_
  refine J_iconst (0) dX3_begin_11 rfl ?_
  refine J_putI dX3_begin_12 flX3_18 rfl rfl rfl rfl hk ?_
  refine J_aload_n dX3_begin_15 rfl rfl ?_
  refine J_iconst (0) dX3_begin_16 rfl ?_
  refine J_putI dX3_begin_17 flX3_21 rfl rfl rfl rfl hk ?_
  refine J_aload_n dX3_begin_20 rfl rfl ?_
  refine J_iconst (0) dX3_begin_21 rfl ?_
  refine J_putI dX3_begin_22 flX3_24 rfl rfl rfl rfl hk ?_
  exact J_vret hR dX3_begin_25 rfl (Nat.le_of_ble_eq_true rfl) (Nat.le_of_ble_eq_true rfl) (jRes_v (by first | (simp only [fX3_begin]; done) | rfl | (simp only [fX3_begin]; rfl)))
def fX3_noteInspection (I : jI) (o : Nat) (x : Int32) : jI :=
  if x = 0 then
    (jset (jset I o 2 ((I o 2) + 1)) o 3 (((jset I o 2 ((I o 2) + 1)) o 3) + 1))
  else
    (jset (jset (jset I o 2 ((I o 2) + 1)) o 3 (((jset I o 2 ((I o 2) + 1)) o 3) + 1)) o 4 (((jset (jset I o 2 ((I o 2) + 1)) o 3 (((jset I o 2 ((I o 2) + 1)) o 3) + 1)) o 4) + 1))
set_option maxRecDepth 100000 in
set_option maxHeartbeats 4000000 in
theorem kX3_noteInspection (S : jX) (I : jI) (o : Nat) (x : Int32) (hk : jKd S o 3 0) : jM (0, 0, 0) mX3_noteInspection [.ref o, .int x] S I (jRes none S (fX3_noteInspection I o x)) := by
  refine jM.of (ls := [.ref o, .int x]) (by decide) (Nat.le_of_ble_eq_true rfl) (by intro v hv; simp only [List.mem_cons, List.not_mem_nil, or_false] at hv; rcases hv with rfl | rfl <;> rfl) rfl (fun G hR => ?_)
  refine J_aload_n dX3_noteInspection_0 rfl rfl ?_
  refine J_dup dX3_noteInspection_1 rfl ?_
  refine J_getI dX3_noteInspection_2 flX3_18 rfl hk ?_
  refine J_iconst (1) dX3_noteInspection_5 rfl ?_
  refine J_iadd dX3_noteInspection_6 ?_
  refine J_putI dX3_noteInspection_7 flX3_18 rfl rfl rfl rfl hk ?_
  refine J_aload_n dX3_noteInspection_10 rfl rfl ?_
  refine J_dup dX3_noteInspection_11 rfl ?_
  refine J_getI dX3_noteInspection_12 flX3_21 rfl hk ?_
  refine J_iconst (1) dX3_noteInspection_15 rfl ?_
  refine J_iadd dX3_noteInspection_16 ?_
  refine J_putI dX3_noteInspection_17 flX3_21 rfl rfl rfl rfl hk ?_
  refine J_iload_n dX3_noteInspection_20 rfl ?_
  refine J_if_eq (tgt := 34) dX3_noteInspection_21 (by decide) (fun h1 => ?_) (fun h1 => ?_)
  · skip
    exact J_vret hR dX3_noteInspection_34 rfl (Nat.le_of_ble_eq_true rfl) (Nat.le_of_ble_eq_true rfl) (jRes_v (by first | (simp only [fX3_noteInspection, if_pos h1]; done) | rfl | (simp only [fX3_noteInspection, if_pos h1]; rfl)))
  · skip
    refine J_aload_n dX3_noteInspection_24 rfl rfl ?_
    refine J_dup dX3_noteInspection_25 rfl ?_
    refine J_getI dX3_noteInspection_26 flX3_24 rfl hk ?_
    refine J_iconst (1) dX3_noteInspection_29 rfl ?_
    refine J_iadd dX3_noteInspection_30 ?_
    refine J_putI dX3_noteInspection_31 flX3_24 rfl rfl rfl rfl hk ?_
    exact J_vret hR dX3_noteInspection_34 rfl (Nat.le_of_ble_eq_true rfl) (Nat.le_of_ble_eq_true rfl) (jRes_v (by first | (simp only [fX3_noteInspection, if_neg h1]; done) | rfl | (simp only [fX3_noteInspection, if_neg h1]; rfl)))
def fX3_beginWeek (I : jI) (o : Nat) : jI :=
  (jset I o 2 0)
set_option maxRecDepth 100000 in
set_option maxHeartbeats 4000000 in
theorem kX3_beginWeek (S : jX) (I : jI) (o : Nat) (hk : jKd S o 3 0) : jM (0, 0, 0) mX3_beginWeek [.ref o] S I (jRes none S (fX3_beginWeek I o)) := by
  refine jM.of (ls := [.ref o]) (by decide) (Nat.le_of_ble_eq_true rfl) (by intro v hv; simp only [List.mem_cons, List.not_mem_nil, or_false] at hv; rcases hv with rfl <;> rfl) rfl (fun G hR => ?_)
  refine J_aload_n dX3_beginWeek_0 rfl rfl ?_
  refine J_iconst (0) dX3_beginWeek_1 rfl ?_
  refine J_putI dX3_beginWeek_2 flX3_18 rfl rfl rfl rfl hk ?_
  exact J_vret hR dX3_beginWeek_5 rfl (Nat.le_of_ble_eq_true rfl) (Nat.le_of_ble_eq_true rfl) (jRes_v (by first | (simp only [fX3_beginWeek]; done) | rfl | (simp only [fX3_beginWeek]; rfl)))
def fX3_fact (I : jI) (o : Nat) (x : Int32) : Int32 :=
  if x = 0 then
    (I o 0)
  else
    if x = 1 then
      (I o 1)
    else
      if x = 2 then
        (fX3_left I o)
      else
        if x = 3 then
          (I o 3)
        else
          if x = 4 then
            (I o 4)
          else
            (-2000000001)
set_option maxRecDepth 100000 in
set_option maxHeartbeats 4000000 in
theorem kX3_fact (S : jX) (I : jI) (o : Nat) (x : Int32) (hk : jKd S o 3 0) : jM (1, 0, 0) mX3_fact [.ref o, .int x] S I (jRes (some (.int (fX3_fact I o x))) S I) := by
  refine jM.of (ls := [.ref o, .int x]) (by decide) (Nat.le_of_ble_eq_true rfl) (by intro v hv; simp only [List.mem_cons, List.not_mem_nil, or_false] at hv; rcases hv with rfl | rfl <;> rfl) rfl (fun G hR => ?_)
  refine J_iload_n dX3_fact_0 rfl ?_
  by_cases h1 : x = 0
  · skip
    refine J_tabIn (off := 35) (tgt := 36) dX3_fact_1 (by rw [h1]; decide) (by rw [h1]; decide) (by rw [h1]; rfl) (by decide) ?_
    refine J_aload_n dX3_fact_36 rfl rfl ?_
    refine J_getI dX3_fact_37 flX3_9 rfl hk ?_
    exact J_iret (ty := .int) hR dX3_fact_40 rfl rfl (Nat.le_of_ble_eq_true rfl) (Nat.le_of_ble_eq_true rfl) (jRes_i (by first | (simp only [fX3_fact, if_pos h1]; done) | rfl | (simp only [fX3_fact, if_pos h1]; rfl)) rfl)
  by_cases h2 : x = 1
  · skip
    refine J_tabIn (off := 40) (tgt := 41) dX3_fact_1 (by rw [h2]; decide) (by rw [h2]; decide) (by rw [h2]; rfl) (by decide) ?_
    refine J_aload_n dX3_fact_41 rfl rfl ?_
    refine J_getI dX3_fact_42 flX3_15 rfl hk ?_
    exact J_iret (ty := .int) hR dX3_fact_45 rfl rfl (Nat.le_of_ble_eq_true rfl) (Nat.le_of_ble_eq_true rfl) (jRes_i (by first | (simp only [fX3_fact, if_neg h1, if_pos h2]; done) | rfl | (simp only [fX3_fact, if_neg h1, if_pos h2]; rfl)) rfl)
  by_cases h3 : x = 2
  · skip
    refine J_tabIn (off := 45) (tgt := 46) dX3_fact_1 (by rw [h3]; decide) (by rw [h3]; decide) (by rw [h3]; rfl) (by decide) ?_
    refine J_aload_n dX3_fact_46 rfl rfl ?_
    refine J_cV0r (mc := mX3_left) hk (by decide) rfl dX3_fact_47 mlX3_27 okX3_left (kX3_left S I o hk) (Nat.le_of_ble_eq_true rfl) (Nat.le_of_ble_eq_true rfl) (Nat.le_of_ble_eq_true rfl) (Nat.le_of_ble_eq_true rfl) ?_
    exact J_iret (ty := .int) hR dX3_fact_50 rfl rfl (Nat.le_of_ble_eq_true rfl) (Nat.le_of_ble_eq_true rfl) (jRes_i (by first | (simp only [fX3_fact, if_neg h1, if_neg h2, if_pos h3]; done) | rfl | (simp only [fX3_fact, if_neg h1, if_neg h2, if_pos h3]; rfl)) rfl)
  by_cases h4 : x = 3
  · skip
    refine J_tabIn (off := 50) (tgt := 51) dX3_fact_1 (by rw [h4]; decide) (by rw [h4]; decide) (by rw [h4]; rfl) (by decide) ?_
    refine J_aload_n dX3_fact_51 rfl rfl ?_
    refine J_getI dX3_fact_52 flX3_21 rfl hk ?_
    exact J_iret (ty := .int) hR dX3_fact_55 rfl rfl (Nat.le_of_ble_eq_true rfl) (Nat.le_of_ble_eq_true rfl) (jRes_i (by first | (simp only [fX3_fact, if_neg h1, if_neg h2, if_neg h3, if_pos h4]; done) | rfl | (simp only [fX3_fact, if_neg h1, if_neg h2, if_neg h3, if_pos h4]; rfl)) rfl)
  by_cases h5 : x = 4
  · skip
    refine J_tabIn (off := 55) (tgt := 56) dX3_fact_1 (by rw [h5]; decide) (by rw [h5]; decide) (by rw [h5]; rfl) (by decide) ?_
    refine J_aload_n dX3_fact_56 rfl rfl ?_
    refine J_getI dX3_fact_57 flX3_24 rfl hk ?_
    exact J_iret (ty := .int) hR dX3_fact_60 rfl rfl (Nat.le_of_ble_eq_true rfl) (Nat.le_of_ble_eq_true rfl) (jRes_i (by first | (simp only [fX3_fact, if_neg h1, if_neg h2, if_neg h3, if_neg h4, if_pos h5]; done) | rfl | (simp only [fX3_fact, if_neg h1, if_neg h2, if_neg h3, if_neg h4, if_pos h5]; rfl)) rfl)
  refine J_tabOut (tgt := 61) dX3_fact_1 (by have e0 := lv_neT h1 (a := 0) rfl; have e1 := lv_neT h2 (a := 1) rfl; have e2 := lv_neT h3 (a := 2) rfl; have e3 := lv_neT h4 (a := 3) rfl; have e4 := lv_neT h5 (a := 4) rfl; omega) (by decide) ?_
  refine J_ldc (-2000000001) dX3_fact_61 jw_488 ?_
  exact J_iret (ty := .int) hR dX3_fact_63 rfl rfl (Nat.le_of_ble_eq_true rfl) (Nat.le_of_ble_eq_true rfl) (jRes_i (by first | (simp only [fX3_fact, if_neg h1, if_neg h2, if_neg h3, if_neg h4, if_neg h5]; done) | rfl | (simp only [fX3_fact, if_neg h1, if_neg h2, if_neg h3, if_neg h4, if_neg h5]; rfl)) rfl)
