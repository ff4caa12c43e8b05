/-! THE LAW'S LOOP, AND ITS START -/
section JN
variable {G : jG} {nm : String} {b L i : Nat} {xs : Nat → Int32} {S : jX} {I : jI}
theorem L_off {k : Nat} {o : Int} {j : Nat} (hj : j < 26) : (nI j).toInt = (j : Int) := nI_toInt (by omega)
set_option maxRecDepth 10000 in
/-- the case that the script's word names -/
theorem L_case (hC : LC G b L xs S) (hI : Inv I) (hi : i + 4 ≤ L) (hn : ∀ I', Inv I' → LJ G nm 840 i [] S I') {j : Nat} (hj : j < 32) : LJ G nm 32 i [.int (nI j)] S I := by
  by_cases hc : j ≤ 25
  · match j, hc with
    | 0, _ => exact J_tabIn (off := 120) (tgt := 152) dL_law_32 (by decide +kernel) (by decide +kernel) rfl rfl (lc_boiler hC hI hi hn)
    | 1, _ => exact J_tabIn (off := 143) (tgt := 175) dL_law_32 (by decide +kernel) (by decide +kernel) rfl rfl (lc_inspector hC hI hi hn)
    | 2, _ => exact J_tabIn (off := 176) (tgt := 208) dL_law_32 (by decide +kernel) (by decide +kernel) rfl rfl (lc_press hC hI hi hn)
    | 3, _ => exact J_tabIn (off := 209) (tgt := 241) dL_law_32 (by decide +kernel) (by decide +kernel) rfl rfl (lc_inspect hC hI hi hn)
    | 4, _ => exact J_tabIn (off := 242) (tgt := 274) dL_law_32 (by decide +kernel) (by decide +kernel) rfl rfl (lc_fire hC hI hi hn)
    | 5, _ => exact J_tabIn (off := 265) (tgt := 297) dL_law_32 (by decide +kernel) (by decide +kernel) rfl rfl (lc_out hC hI hi hn)
    | 6, _ => exact J_tabIn (off := 288) (tgt := 320) dL_law_32 (by decide +kernel) (by decide +kernel) rfl rfl (lc_plan hC hI hi hn)
    | 7, _ => exact J_tabIn (off := 331) (tgt := 363) dL_law_32 (by decide +kernel) (by decide +kernel) rfl rfl (lc_repair hC hI hi hn)
    | 8, _ => exact J_tabIn (off := 354) (tgt := 386) dL_law_32 (by decide +kernel) (by decide +kernel) rfl rfl (lc_pass hC hI hi hn)
    | 9, _ => exact J_tabIn (off := 377) (tgt := 409) dL_law_32 (by decide +kernel) (by decide +kernel) rfl rfl (lc_set hC hI hi hn)
    | 10, _ => exact J_tabIn (off := 410) (tgt := 442) dL_law_32 (by decide +kernel) (by decide +kernel) rfl rfl (lc_boilerOf hC hI hi hn)
    | 11, _ => exact J_tabIn (off := 443) (tgt := 475) dL_law_32 (by decide +kernel) (by decide +kernel) rfl rfl (lc_paperOf hC hI hi hn)
    | 12, _ => exact J_tabIn (off := 476) (tgt := 508) dL_law_32 (by decide +kernel) (by decide +kernel) rfl rfl (lc_inspectorOf hC hI hi hn)
    | 13, _ => exact J_tabIn (off := 509) (tgt := 541) dL_law_32 (by decide +kernel) (by decide +kernel) rfl rfl (lc_why hC hI hi hn)
    | 14, _ => exact J_tabIn (off := 542) (tgt := 574) dL_law_32 (by decide +kernel) (by decide +kernel) rfl rfl (lc_account hC hI hi hn)
    | 15, _ => exact J_tabIn (off := 565) (tgt := 597) dL_law_32 (by decide +kernel) (by decide +kernel) rfl rfl (lc_would hC hI hi hn)
    | 16, _ => exact J_tabIn (off := 608) (tgt := 640) dL_law_32 (by decide +kernel) (by decide +kernel) rfl rfl (lc_better hC hI hi hn)
    | 17, _ => exact J_tabIn (off := 631) (tgt := 663) dL_law_32 (by decide +kernel) (by decide +kernel) rfl rfl (lc_first hC hI hi hn)
    | 18, _ => exact J_tabIn (off := 654) (tgt := 686) dL_law_32 (by decide +kernel) (by decide +kernel) rfl rfl (lc_goesOn hC hI hi hn)
    | 19, _ => exact J_tabIn (off := 677) (tgt := 709) dL_law_32 (by decide +kernel) (by decide +kernel) rfl rfl (lc_share hC hI hi hn)
    | 20, _ => exact J_tabIn (off := 700) (tgt := 732) dL_law_32 (by decide +kernel) (by decide +kernel) rfl rfl (lc_count hC hI hi hn)
    | 21, _ => exact J_tabIn (off := 723) (tgt := 755) dL_law_32 (by decide +kernel) (by decide +kernel) rfl rfl (lc_undo hC hI hi hn)
    | 22, _ => exact J_tabIn (off := 736) (tgt := 768) dL_law_32 (by decide +kernel) (by decide +kernel) rfl rfl (lc_type hC hI hi hn)
    | 23, _ => exact J_tabIn (off := 759) (tgt := 791) dL_law_32 (by decide +kernel) (by decide +kernel) rfl rfl (lc_clearText hC hI hi hn)
    | 24, _ => exact J_tabIn (off := 772) (tgt := 804) dL_law_32 (by decide +kernel) (by decide +kernel) rfl rfl (lc_fault hC hI hi hn)
    | 25, _ => exact J_tabIn (off := 795) (tgt := 827) dL_law_32 (by decide +kernel) (by decide +kernel) rfl rfl (lc_play hC hI hi hn)
    | q + 26, hc => exact absurd hc (by omega)
  · refine J_tabOut (tgt := 840) dL_law_32 (Or.inr ?_) rfl (hn _ hI)
    rw [nI_toInt (by omega)]
    omega
theorem L_loop (hC : LC G b L xs S) : ∀ (c i : Nat) (I : jI), L ≤ i + 4 * c → i ≤ 4096 → Inv I → LJ G nm 18 i [] S I := by
  intro c
  induction c with
  | zero =>
    intro i I h1 h2 hI
    have hL := hC.2.1
    refine J_iload_n (x := nI i) dL_law_18 rfl ?_
    refine J_aload_n (v := .retAddr 1) dL_law_19 rfl rfl ?_
    refine J_xlen hC.1 dL_law_20 ?_
    refine J_iconst (nI 4) dL_law_21 rfl ?_
    refine J_isub dL_law_22 ?_
    refine J_icmp_gt (tgt := 846) dL_law_23 (by decide) (fun h => ?_) (fun h => ?_)
    · refine J_iconst 1 dL_law_846 rfl ?_
      exact J_lend hC.1 dL_law_847 (Nat.le_of_ble_eq_true rfl) (Nat.le_of_ble_eq_true rfl)
    · exfalso
      refine h ?_
      rw [Int32.lt_iff_toInt_lt]
      show (nI L - nI 4).toInt < (nI i).toInt
      rw [pk_sub_toInt (by omega) (by decide), nI_toInt (by omega)]
      omega
  | succ c ih =>
    intro i I h1 h2 hI
    have hL := hC.2.1
    refine J_iload_n (x := nI i) dL_law_18 rfl ?_
    refine J_aload_n (v := .retAddr 1) dL_law_19 rfl rfl ?_
    refine J_xlen hC.1 dL_law_20 ?_
    refine J_iconst (nI 4) dL_law_21 rfl ?_
    refine J_isub dL_law_22 ?_
    refine J_icmp_gt (tgt := 846) dL_law_23 (by decide) (fun h => ?_) (fun h => ?_)
    · refine J_iconst 1 dL_law_846 rfl ?_
      exact J_lend hC.1 dL_law_847 (Nat.le_of_ble_eq_true rfl) (Nat.le_of_ble_eq_true rfl)
    · have hi : i + 4 ≤ L := by
        rw [Int32.lt_iff_toInt_lt] at h
        have e : (Int32.ofNat L - nI 4).toInt = (L : Int) - 4 := pk_sub_toInt (a := L) (b := 4) (by omega) (by decide)
        rw [e, nI_toInt (by omega)] at h
        omega
      refine J_aload_n (v := .retAddr 1) dL_law_26 rfl rfl ?_
      refine J_iload_n (x := nI i) dL_law_27 rfl ?_
      refine J_xld hC.1 (vp_in_nI (by omega) (by omega)) dL_law_28 ?_
      refine J_bipush 31 dL_law_29 rfl ?_
      refine J_iand dL_law_31 ?_
      obtain ⟨j, hj, e⟩ := pk_andE (xs (nI i).toNatClampNeg) (m := 31) 5 (by decide)
      rw [e]
      refine L_case hC hI hi (fun I' hI' => ?_) hj
      refine J_iincv (x := nI i) (v := nI (i + 4)) dL_law_840 rfl rfl (nI_add i 4) ?_
      exact J_goto (tgt := 18) dL_law_843 (by decide) (ih (i + 4) I' (by omega) (by omega) hI')
def S00 : jX := (0, fun _ => (0, 0), fun _ _ => none)
def I00 : jI := fun _ _ => 0
set_option maxRecDepth 10000 in
theorem L_start (hG : jLaw G b L xs) (hL : L ≤ 2048) : J G dLaw (mLaw nm) 0 [.retAddr 1, .long 0, .long 0, .long 0] [] S00 I00 0 0 := by
  refine J_new (ci := 6) dL_law_0 (by decide) jw_11 jw_12 jw_1 (Nat.le_of_ble_eq_true rfl) (Nat.le_of_ble_eq_true rfl) ?_
  refine J_dup dL_law_3 rfl ?_
  refine J_callI (o := 0) (As := []) (rest := [.ref 0]) dL_law_4 mlL_9 okX6_init (kX6_init (jnS S00 6 0) (jnI S00 I00) rfl (jKd_new S00 6 0)) (Nat.le_of_ble_eq_true rfl) (Nat.le_of_ble_eq_true rfl) (Nat.le_of_ble_eq_true rfl) (Nat.le_of_ble_eq_true rfl) rfl ?_
  rintro v S1 I1 ⟨rfl, hs, hT, hZ⟩
  refine J_astore_n (v := .ref 0) dL_law_7 (show (1 : Nat) < 4 by decide) rfl ?_
  refine J_new (ci := 7) dL_law_8 (by decide) jw_699 jw_700 jw_8 (Nat.le_of_ble_eq_true rfl) (Nat.le_of_ble_eq_true rfl) ?_
  rw [hs]
  refine J_dup dL_law_11 rfl ?_
  have hk : jKd (jnS S1 7 0) 120 7 0 := by
    have h := jKd_new S1 7 0
    rw [hs] at h
    exact h
  have h0 : jnI S1 I1 120 = fun _ => 0 := by
    funext k
    exact if_pos hs.symm
  have s1 : (jnS S1 7 0).1 = 121 := by
    show S1.1 + 1 = 121
    rw [hs]
  refine J_callI (o := 120) (As := []) (rest := [.ref 120]) dL_law_12 mlL_12 okX7_init (kX7_init (jnS S1 7 0) (jnI S1 I1) s1 hk h0) (Nat.le_of_ble_eq_true rfl) (Nat.le_of_ble_eq_true rfl) (Nat.le_of_ble_eq_true rfl) (Nat.le_of_ble_eq_true rfl) rfl ?_
  rintro v S2 I2 ⟨rfl, hs2, hM, hE, hZ7⟩
  have hE2 : jKeep 0 120 S1 S2 I1 I2 := ((jExt.new (by omega)).tr hE).kp
  have hT2 : jTop S2 := hT.kp hE2 (Nat.le_refl _) (by omega)
  have hI : Inv I2 := Inv_init (hZ.kp hE2 (Nat.le_refl _)) hZ7
  refine J_astore_n (v := .ref 120) dL_law_15 (show (2 : Nat) < 4 by decide) rfl ?_
  refine J_iconst (nI 0) dL_law_16 rfl ?_
  refine J_istore_n (x := nI 0) dL_law_17 (show (3 : Nat) < 4 by decide) ?_
  exact L_loop ⟨hG, hL, hT2, hM⟩ L 0 I2 (by omega) (by omega) hI
end JN

