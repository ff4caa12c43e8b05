/-- one turn of the rehearsal: r the rehearsal, t the text, h the house -/
def rehTake (J : jI) (r t h : Nat) : jI := fX5_takeAnswer (fX2_obey J h (J t 4) (J t 5) (J t 6)).2 r (J t 2) (fX2_obey J h (J t 4) (J t 5) (J t 6)).1
def rehStop (J : jI) (r t : Nat) : jI := fX5_stopAt J r (J t 2) 1 (fX4_brokeOffAt J t)
def rehStep (I : jI) (r t h : Nat) : jI :=
  if I r 2 = 0 then (if fX4_hasMore I t = 0 then I else if (fX4_readOrder I t).1 = 0 then rehStop (fX4_readOrder I t).2 r t else rehTake (fX4_readOrder I t).2 r t h) else I
def rehI (I : jI) (r t h : Nat) : Nat → jI
  | 0 => I
  | k + 1 => rehStep (rehI I r t h k) r t h
theorem rehI_fix {I : jI} {r t h i : Nat} (hs : rehStep (rehI I r t h i) r t h = rehI I r t h i) : ∀ c, rehI I r t h (i + c) = rehI I r t h i
  | 0 => rfl
  | c + 1 => by
    show rehStep (rehI I r t h (i + c)) r t h = _
    rw [rehI_fix hs c]
    exact hs
def fX5_run (I : jI) (r t h : Nat) : jI := rehI (fX4_goToStart (jset (jset I r 0 0) r 2 0) t) r t h 60
set_option maxRecDepth 100000 in
set_option maxHeartbeats 4000000 in
theorem t1X5_run {S : jX} {I : jI} {r t h : Nat} {v : Int32} {G : jG} (hk : jKd S r 5 0) (hX : jText S t) (hH : jHouse S h) (hJ : jHInv I h) (hn : J G (5, 0, 0) mX5_run 83 [.ref r, .ref t, .ref h, .int v] [] S (rehTake I r t h) 0 0) : J G (5, 0, 0) mX5_run 43 [.ref r, .ref t, .ref h, .int v] [] S I 0 0 := by
  refine J_aload_n dX5_run_43 rfl rfl ?_
  refine J_aload_n dX5_run_44 rfl rfl ?_
  refine J_getI dX5_run_45 flX5_30 rfl hX.1 ?_
  refine J_aload_n dX5_run_48 rfl rfl ?_
  refine J_aload_n dX5_run_49 rfl rfl ?_
  refine J_getI dX5_run_50 flX5_33 rfl hX.1 ?_
  refine J_aload_n dX5_run_53 rfl rfl ?_
  refine J_getI dX5_run_54 flX5_37 rfl hX.1 ?_
  refine J_aload_n dX5_run_57 rfl rfl ?_
  refine J_getI dX5_run_58 flX5_40 rfl hX.1 ?_
  refine J_cV3r (mc := mX2_obey) hH.1 (by decide) rfl dX5_run_61 mlX5_43 okX2_obey (kX2_obey S I h (I t 4) (I t 5) (I t 6) hH hJ) (Nat.le_of_ble_eq_true rfl) (Nat.le_of_ble_eq_true rfl) (Nat.le_of_ble_eq_true rfl) (Nat.le_of_ble_eq_true rfl) ?_
  refine J_cV2 (mc := mX5_takeAnswer) hk (by decide) rfl dX5_run_64 mlX5_49 okX5_takeAnswer (kX5_takeAnswer S ((fX2_obey I h (I t 4) (I t 5) (I t 6)).2) r (I t 2) ((fX2_obey I h (I t 4) (I t 5) (I t 6)).1) hk) (Nat.le_of_ble_eq_true rfl) (Nat.le_of_ble_eq_true rfl) (Nat.le_of_ble_eq_true rfl) (Nat.le_of_ble_eq_true rfl) ?_
  refine J_goto (tgt := 83) dX5_run_67 (by decide) ?_
  exact hn
set_option maxRecDepth 100000 in
set_option maxHeartbeats 4000000 in
theorem t2X5_run {S : jX} {I : jI} {r t h : Nat} {v : Int32} {G : jG} (hk : jKd S r 5 0) (hX : jText S t) (hH : jHouse S h) (hn : J G (5, 0, 0) mX5_run 83 [.ref r, .ref t, .ref h, .int v] [] S (rehStop I r t) 0 0) : J G (5, 0, 0) mX5_run 70 [.ref r, .ref t, .ref h, .int v] [] S I 0 0 := by
  refine J_aload_n dX5_run_70 rfl rfl ?_
  refine J_aload_n dX5_run_71 rfl rfl ?_
  refine J_getI dX5_run_72 flX5_30 rfl hX.1 ?_
  refine J_iconst (1) dX5_run_75 rfl ?_
  refine J_aload_n dX5_run_76 rfl rfl ?_
  refine J_cV0r (mc := mX4_brokeOffAt) hX.1 (by decide) rfl dX5_run_77 mlX5_53 okX4_brokeOffAt (kX4_brokeOffAt S I t hX) (Nat.le_of_ble_eq_true rfl) (Nat.le_of_ble_eq_true rfl) (Nat.le_of_ble_eq_true rfl) (Nat.le_of_ble_eq_true rfl) ?_
  refine J_cV3 (mc := mX5_stopAt) hk (by decide) rfl dX5_run_80 mlX5_57 okX5_stopAt (kX5_stopAt S I r (I t 2) 1 (fX4_brokeOffAt I t) hk) (Nat.le_of_ble_eq_true rfl) (Nat.le_of_ble_eq_true rfl) (Nat.le_of_ble_eq_true rfl) (Nat.le_of_ble_eq_true rfl) ?_
  exact hn
set_option maxRecDepth 100000 in
set_option maxHeartbeats 4000000 in
theorem lX5_run {S : jX} {I : jI} {r t h : Nat} {G : jG} {Φ : Option Value → jX → jI → Prop} (hR : jR G (5, 0, 0) Φ) (hk : jKd S r 5 0) (hX : jText S t) (hH : jHouse S h) (hinv : ∀ k, jHInv (fX4_readOrder (rehI I r t h k) t).2 h) (hΦ : Φ none S (rehI I r t h 60)) : ∀ (c i : Nat), i + c = 60 → J G (5, 0, 0) mX5_run 16 [.ref r, .ref t, .ref h, .int (nI i)] [] S (rehI I r t h i) 0 0 := by
  intro c
  induction c with
  | zero =>
    intro i hi
    have hi2 : i = 60 := by omega
    subst hi2
    refine J_iload_n dX5_run_16 rfl ?_
    refine J_bipush (60) dX5_run_17 rfl ?_
    refine J_icmp_ge (tgt := 89) dX5_run_19 (by decide) (fun h1 => ?_) (fun h1 => ?_)
    · skip
      exact J_vret hR dX5_run_89 rfl (Nat.le_of_ble_eq_true rfl) (Nat.le_of_ble_eq_true rfl) hΦ
    · skip
      exact absurd (nI_le (a := 60) (b := 60) (by omega) (by omega)) h1
  | succ c ih =>
    intro i hi
    refine J_iload_n dX5_run_16 rfl ?_
    refine J_bipush (60) dX5_run_17 rfl ?_
    refine J_icmp_ge (tgt := 89) dX5_run_19 (by decide) (fun h1 => ?_) (fun h1 => ?_)
    · skip
      exact absurd h1 (nI_ge (a := i) (b := 60) (by omega) (by decide))
    · skip
      refine J_aload_n dX5_run_22 rfl rfl ?_
      refine J_getI dX5_run_23 flX5_15 rfl hk ?_
      refine J_if_ne (tgt := 89) dX5_run_26 (by decide) (fun h2 => ?_) (fun h2 => ?_)
      · skip
        exact J_vret hR dX5_run_89 rfl (Nat.le_of_ble_eq_true rfl) (Nat.le_of_ble_eq_true rfl) (by have e9 : rehStep (rehI I r t h i) r t h = rehI I r t h i := (by unfold rehStep; simp only [if_neg h1, if_neg h2]); have e8 := rehI_fix e9 (c + 1); rw [hi] at e8; rw [e8] at hΦ; exact hΦ)
      · skip
        refine J_aload_n dX5_run_29 rfl rfl ?_
        refine J_cV0r (mc := mX4_hasMore) hX.1 (by decide) rfl dX5_run_30 mlX5_23 okX4_hasMore (kX4_hasMore S (rehI I r t h i) t hX) (Nat.le_of_ble_eq_true rfl) (Nat.le_of_ble_eq_true rfl) (Nat.le_of_ble_eq_true rfl) (Nat.le_of_ble_eq_true rfl) ?_
        refine J_if_eq (tgt := 89) dX5_run_33 (by decide) (fun h3 => ?_) (fun h3 => ?_)
        · skip
          exact J_vret hR dX5_run_89 rfl (Nat.le_of_ble_eq_true rfl) (Nat.le_of_ble_eq_true rfl) (by have e9 : rehStep (rehI I r t h i) r t h = rehI I r t h i := (by unfold rehStep; simp only [if_neg h1, if_pos h2, if_pos h3]); have e8 := rehI_fix e9 (c + 1); rw [hi] at e8; rw [e8] at hΦ; exact hΦ)
        · skip
          refine J_aload_n dX5_run_36 rfl rfl ?_
          refine J_cV0r (mc := mX4_readOrder) hX.1 (by decide) rfl dX5_run_37 mlX5_27 okX4_readOrder (kX4_readOrder S (rehI I r t h i) t hX) (Nat.le_of_ble_eq_true rfl) (Nat.le_of_ble_eq_true rfl) (Nat.le_of_ble_eq_true rfl) (Nat.le_of_ble_eq_true rfl) ?_
          refine J_if_eq (tgt := 70) dX5_run_40 (by decide) (fun h4 => ?_) (fun h4 => ?_)
          · skip
            have e9 : rehI I r t h (i + 1) = rehStop (fX4_readOrder (rehI I r t h i) t).2 r t := by
              show rehStep (rehI I r t h i) r t h = _
              unfold rehStep
              simp only [if_neg h1, if_pos h2, if_neg h3, if_pos h4]
            refine t2X5_run hk hX hH ?_
            rw [← e9]
            refine J_iinc (y := 1) dX5_run_83 rfl rfl ?_
            refine J_goto (tgt := 16) dX5_run_86 (by decide) ?_
            refine J_eq (ls' := [.ref r, .ref t, .ref h, .int (nI (i + 1))]) (by rw [← nI_1]; rfl) rfl (ih (i + 1) (by omega))
          · skip
            have e9 : rehI I r t h (i + 1) = rehTake (fX4_readOrder (rehI I r t h i) t).2 r t h := by
              show rehStep (rehI I r t h i) r t h = _
              unfold rehStep
              simp only [if_neg h1, if_pos h2, if_neg h3, if_neg h4]
            have hJ : jHInv (fX4_readOrder (rehI I r t h i) t).2 h := hinv i
            refine t1X5_run hk hX hH hJ ?_
            rw [← e9]
            refine J_iinc (y := 1) dX5_run_83 rfl rfl ?_
            refine J_goto (tgt := 16) dX5_run_86 (by decide) ?_
            refine J_eq (ls' := [.ref r, .ref t, .ref h, .int (nI (i + 1))]) (by rw [← nI_1]; rfl) rfl (ih (i + 1) (by omega))
set_option maxRecDepth 100000 in
set_option maxHeartbeats 4000000 in
theorem kX5_run (S : jX) (I : jI) (r t h : Nat) (hk : jKd S r 5 0) (hX : jText S t) (hH : jHouse S h) (hinv : ∀ k, jHInv (fX4_readOrder (rehI (fX4_goToStart (jset (jset I r 0 0) r 2 0) t) r t h k) t).2 h) : jM (5, 0, 0) mX5_run [.ref r, .ref t, .ref h] S I (jRes none S (fX5_run I r t h)) := by
  refine jM.of (ls := [.ref r, .ref t, .ref h, .long 0]) (by decide) (Nat.le_of_ble_eq_true rfl) (by intro v hv; simp only [List.mem_cons, List.not_mem_nil, or_false] at hv; rcases hv with rfl | rfl | rfl <;> rfl) rfl (fun G hR => ?_)
  refine J_aload_n dX5_run_0 rfl rfl ?_
  refine J_iconst (0) dX5_run_1 rfl ?_
  refine J_putI dX5_run_2 flX5_9 rfl rfl rfl rfl hk ?_
  refine J_aload_n dX5_run_5 rfl rfl ?_
  refine J_iconst (0) dX5_run_6 rfl ?_
  refine J_putI dX5_run_7 flX5_15 rfl rfl rfl rfl hk ?_
  refine J_aload_n dX5_run_10 rfl rfl ?_
  refine J_cV0 (mc := mX4_goToStart) hX.1 (by decide) rfl dX5_run_11 mlX5_18 okX4_goToStart (kX4_goToStart S (jset (jset I r 0 0) r 2 0) t hX) (Nat.le_of_ble_eq_true rfl) (Nat.le_of_ble_eq_true rfl) (Nat.le_of_ble_eq_true rfl) (Nat.le_of_ble_eq_true rfl) ?_
  refine J_iconst (0) dX5_run_14 rfl ?_
  refine J_istore_n dX5_run_15 (Nat.le_of_ble_eq_true rfl) ?_
  exact lX5_run hR hk hX hH hinv ⟨rfl, rfl, rfl⟩ 60 0 (by omega)
def fX1_keep (I : jI) (o q k : Nat) : jI :=
  jset (jset (fX2_copyFrom I (o + 2 + 19 * k) q) o 2 (((fX2_copyFrom I (o + 2 + 19 * k) q) o 2 + 1) - ((fX2_copyFrom I (o + 2 + 19 * k) q) o 2 + 1) / 4 * 4)) o 1 (if 4 < (jset (fX2_copyFrom I (o + 2 + 19 * k) q) o 2 (((fX2_copyFrom I (o + 2 + 19 * k) q) o 2 + 1) - ((fX2_copyFrom I (o + 2 + 19 * k) q) o 2 + 1) / 4 * 4)) o 1 + 1 then 4 else (jset (fX2_copyFrom I (o + 2 + 19 * k) q) o 2 (((fX2_copyFrom I (o + 2 + 19 * k) q) o 2 + 1) - ((fX2_copyFrom I (o + 2 + 19 * k) q) o 2 + 1) / 4 * 4)) o 1 + 1)
def fX1_bringBack (I : jI) (o q k : Nat) : Int32 × jI :=
  if I o 1 < 1 then ((-2000000002), I)
  else ((jset (jset (fX2_copyFrom I q (o + 2 + 19 * k)) o 2 (nI k)) o 1 ((jset (fX2_copyFrom I q (o + 2 + 19 * k)) o 2 (nI k)) o 1 - 1)) o 1, jset (jset (fX2_copyFrom I q (o + 2 + 19 * k)) o 2 (nI k)) o 1 ((jset (fX2_copyFrom I q (o + 2 + 19 * k)) o 2 (nI k)) o 1 - 1))
set_option maxRecDepth 100000 in
set_option maxHeartbeats 4000000 in
theorem kX1_keep (S : jX) (I : jI) (o q k : Nat) (hT : jHist S o) (hQ : jHouse S q) (hk : k < 4) (hap : jApart (o + 2 + 19 * k) q) (hI : jHInv I q) (hn2 : I o 2 = nI k) : jM (2, 0, 0) mX1_keep [.ref o, .ref q] S I (jRes none S (fX1_keep I o q k)) := by
  refine jM.of (ls := [.ref o, .ref q, .long 0]) (by decide) (Nat.le_of_ble_eq_true rfl) (by intro v hv; simp only [List.mem_cons, List.not_mem_nil, or_false] at hv; rcases hv with rfl | rfl <;> rfl) rfl (fun G hR => ?_)
  refine J_aload_n dX1_keep_0 rfl rfl ?_
  refine J_aload_n dX1_keep_1 rfl rfl ?_
  refine J_getI dX1_keep_2 flX1_22 rfl hT.1 ?_
  refine J_cV1r (mc := mX1_stateAt) hT.1 (by decide) rfl dX1_keep_5 mlX1_25 okX1_stateAt (kX1_stateAt S I o (I o 2) hT) (Nat.le_of_ble_eq_true rfl) (Nat.le_of_ble_eq_true rfl) (Nat.le_of_ble_eq_true rfl) (Nat.le_of_ble_eq_true rfl) ?_
  rw [hn2, stateAt_ok hk]
  refine J_astore_n dX1_keep_8 (Nat.le_of_ble_eq_true rfl) rfl ?_
  refine J_aload_n dX1_keep_9 rfl rfl ?_
  refine J_ifnonnull_r (tgt := 14) dX1_keep_10 (by decide) ?_
  refine J_aload_n dX1_keep_14 rfl rfl ?_
  refine J_aload_n dX1_keep_15 rfl rfl ?_
  refine J_cV1 (mc := mX2_copyFrom) (hT.2.2.2 k hk).1.1 (by decide) rfl dX1_keep_16 mlX1_29 okX2_copyFrom (kX2_copyFrom S I (o + 2 + 19 * k) q (hT.2.2.2 k hk).1 hQ hap hI) (Nat.le_of_ble_eq_true rfl) (Nat.le_of_ble_eq_true rfl) (Nat.le_of_ble_eq_true rfl) (Nat.le_of_ble_eq_true rfl) ?_
  refine J_aload_n dX1_keep_19 rfl rfl ?_
  refine J_aload_n dX1_keep_20 rfl rfl ?_
  refine J_getI dX1_keep_21 flX1_22 rfl hT.1 ?_
  refine J_iconst (1) dX1_keep_24 rfl ?_
  refine J_iadd dX1_keep_25 ?_
  refine J_iconst (4) dX1_keep_26 rfl ?_
  refine J_irem dX1_keep_27 (by decide) ?_
  refine J_putI dX1_keep_28 flX1_22 rfl rfl rfl rfl hT.1 ?_
  refine J_aload_n dX1_keep_31 rfl rfl ?_
  refine J_aload_n dX1_keep_32 rfl rfl ?_
  refine J_getI dX1_keep_33 flX1_18 rfl hT.1 ?_
  refine J_iconst (1) dX1_keep_36 rfl ?_
  refine J_iadd dX1_keep_37 ?_
  refine J_iconst (4) dX1_keep_38 rfl ?_
  refine J_min dX1_keep_39 jw_285 (Nat.le_of_ble_eq_true rfl) (Nat.le_of_ble_eq_true rfl) (Nat.le_of_ble_eq_true rfl) (Nat.le_of_ble_eq_true rfl) ?_
  refine J_putI dX1_keep_42 flX1_18 rfl rfl rfl rfl hT.1 ?_
  exact J_vret hR dX1_keep_45 rfl (Nat.le_of_ble_eq_true rfl) (Nat.le_of_ble_eq_true rfl) (jRes_v rfl)
set_option maxRecDepth 100000 in
set_option maxHeartbeats 4000000 in
theorem kX1_bringBack (S : jX) (I : jI) (o q k : Nat) (hT : jHist S o) (hQ : jHouse S q) (hk : k < 4) (hap : jApart q (o + 2 + 19 * k)) (hI : jHInv I (o + 2 + 19 * k)) (hn2 : (I o 2 + 4 - 1) - (I o 2 + 4 - 1) / 4 * 4 = nI k) : jM (2, 0, 0) mX1_bringBack [.ref o, .ref q] S I (jRes (some (.int (fX1_bringBack I o q k).1)) S (fX1_bringBack I o q k).2) := by
  refine jM.of (ls := [.ref o, .ref q, .long 0, .long 0]) (by decide) (Nat.le_of_ble_eq_true rfl) (by intro v hv; simp only [List.mem_cons, List.not_mem_nil, or_false] at hv; rcases hv with rfl | rfl <;> rfl) rfl (fun G hR => ?_)
  refine J_aload_n dX1_bringBack_0 rfl rfl ?_
  refine J_getI dX1_bringBack_1 flX1_22 rfl hT.1 ?_
  refine J_iconst (4) dX1_bringBack_4 rfl ?_
  refine J_iadd dX1_bringBack_5 ?_
  refine J_iconst (1) dX1_bringBack_6 rfl ?_
  refine J_isub dX1_bringBack_7 ?_
  refine J_iconst (4) dX1_bringBack_8 rfl ?_
  refine J_irem dX1_bringBack_9 (by decide) ?_
  refine J_istore_n dX1_bringBack_10 (Nat.le_of_ble_eq_true rfl) ?_
  refine J_eq (ls' := [.ref o, .ref q, .int (nI k), .long 0]) (by rw [← hn2]; rfl) rfl ?_
  refine J_aload_n dX1_bringBack_11 rfl rfl ?_
  refine J_iload_n dX1_bringBack_12 rfl ?_
  refine J_cV1r (mc := mX1_stateAt) hT.1 (by decide) rfl dX1_bringBack_13 mlX1_25 okX1_stateAt (kX1_stateAt S I o (nI k) hT) (Nat.le_of_ble_eq_true rfl) (Nat.le_of_ble_eq_true rfl) (Nat.le_of_ble_eq_true rfl) (Nat.le_of_ble_eq_true rfl) ?_
  rw [stateAt_ok hk]
  refine J_astore_n dX1_bringBack_16 (Nat.le_of_ble_eq_true rfl) rfl ?_
  refine J_aload_n dX1_bringBack_17 rfl rfl ?_
  refine J_getI dX1_bringBack_18 flX1_18 rfl hT.1 ?_
  refine J_iconst (1) dX1_bringBack_21 rfl ?_
  refine J_icmp_lt (tgt := 29) dX1_bringBack_22 (by decide) (fun h1 => ?_) (fun h1 => ?_)
  · skip
    refine J_ldc (-2000000002) dX1_bringBack_29 jw_603 ?_
    exact J_iret (ty := .int) hR dX1_bringBack_31 rfl rfl (Nat.le_of_ble_eq_true rfl) (Nat.le_of_ble_eq_true rfl) (jRes_f (by first | (simp only [fX1_bringBack, if_pos h1]; done) | rfl | (simp only [fX1_bringBack, if_pos h1]; rfl)))
  · skip
    refine J_aload_n dX1_bringBack_25 rfl rfl ?_
    refine J_ifnonnull_r (tgt := 32) dX1_bringBack_26 (by decide) ?_
    refine J_aload_n dX1_bringBack_32 rfl rfl ?_
    refine J_aload_n dX1_bringBack_33 rfl rfl ?_
    refine J_cV1 (mc := mX2_copyFrom) hQ.1 (by decide) rfl dX1_bringBack_34 mlX1_29 okX2_copyFrom (kX2_copyFrom S I q (o + 2 + 19 * k) hQ (hT.2.2.2 k hk).1 hap hI) (Nat.le_of_ble_eq_true rfl) (Nat.le_of_ble_eq_true rfl) (Nat.le_of_ble_eq_true rfl) (Nat.le_of_ble_eq_true rfl) ?_
    refine J_aload_n dX1_bringBack_37 rfl rfl ?_
    refine J_iload_n dX1_bringBack_38 rfl ?_
    refine J_putI dX1_bringBack_39 flX1_22 rfl rfl rfl rfl hT.1 ?_
    refine J_aload_n dX1_bringBack_42 rfl rfl ?_
    refine J_dup dX1_bringBack_43 rfl ?_
    refine J_getI dX1_bringBack_44 flX1_18 rfl hT.1 ?_
    refine J_iconst (1) dX1_bringBack_47 rfl ?_
    refine J_isub dX1_bringBack_48 ?_
    refine J_putI dX1_bringBack_49 flX1_18 rfl rfl rfl rfl hT.1 ?_
    refine J_aload_n dX1_bringBack_52 rfl rfl ?_
    refine J_getI dX1_bringBack_53 flX1_18 rfl hT.1 ?_
    exact J_iret (ty := .int) hR dX1_bringBack_56 rfl rfl (Nat.le_of_ble_eq_true rfl) (Nat.le_of_ble_eq_true rfl) (jRes_f (by first | (simp only [fX1_bringBack, if_neg h1]; done) | rfl | (simp only [fX1_bringBack, if_neg h1]; rfl)))
