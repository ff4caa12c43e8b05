/-- the first j of a row are those of another row -/
def jcp (I : jI) (o q j : Nat) : jI := jrow I o (fun k => if k < j then I q k else I o k)
theorem jcp_0 {I : jI} {o q : Nat} : I = jcp I o q 0 := jrow_init (fun k => if_neg (by omega))
theorem jcp_n {I : jI} {o q j : Nat} (h : q ≠ o) : jcp I o q j q = I q := jrow_ne h
theorem jcp_s {I : jI} {o q j : Nat} (h : q ≠ o) : jset (jcp I o q j) o j (jcp I o q j q j) = jcp I o q (j + 1) := by
  rw [jcp_n h]
  unfold jcp
  rw [jrow_step]
  exact congrArg _ (jcpy _ _ _)
/-- the flags of a boiler -/
def jBb (I : jI) (b : Nat) : Prop := (I b 6 = 0 ∨ I b 6 = 1) ∧ (I b 7 = 0 ∨ I b 7 = 1) ∧ (I b 11 = 0 ∨ I b 11 = 1)
def fX0_copyFrom (I : jI) (o q : Nat) : jI := jcp I o q 14
def fX3_copyFrom (I : jI) (o q : Nat) : jI := jcp I o q 5
set_option maxRecDepth 100000 in
set_option maxHeartbeats 4000000 in
theorem kX0_copyFrom (S : jX) (I : jI) (o q : Nat) (hk : jKd S o 0 0) (hq : jKd S q 0 0) (hne : q ≠ o) (hbb : jBb I q) : jM (0, 0, 0) mX0_copyFrom [.ref o, .ref q] S I (jRes none S (fX0_copyFrom I o q)) := by
  refine jM.of (ls := [.ref o, .ref q]) (by decide) (Nat.le_of_ble_eq_true rfl) (by intro v hv; simp only [List.mem_cons, List.not_mem_nil, or_false] at hv; rcases hv with rfl | rfl <;> rfl) rfl (fun G hR => ?_)
  refine J_eq (I' := jcp I o q 0) rfl jcp_0 ?_
  refine J_aload_n dX0_copyFrom_0 rfl rfl ?_
  refine J_aload_n dX0_copyFrom_1 rfl rfl ?_
  refine J_getI dX0_copyFrom_2 flX0_9 rfl hq ?_
  refine J_putI dX0_copyFrom_5 flX0_9 rfl rfl rfl rfl hk ?_
  refine J_eq (I' := jcp I o q 1) rfl (jcp_s hne) ?_
  refine J_aload_n dX0_copyFrom_8 rfl rfl ?_
  refine J_aload_n dX0_copyFrom_9 rfl rfl ?_
  refine J_getI dX0_copyFrom_10 flX0_15 rfl hq ?_
  refine J_putI dX0_copyFrom_13 flX0_15 rfl rfl rfl rfl hk ?_
  refine J_eq (I' := jcp I o q 2) rfl (jcp_s hne) ?_
  refine J_aload_n dX0_copyFrom_16 rfl rfl ?_
  refine J_aload_n dX0_copyFrom_17 rfl rfl ?_
  refine J_getI dX0_copyFrom_18 flX0_18 rfl hq ?_
  refine J_putI dX0_copyFrom_21 flX0_18 rfl rfl rfl rfl hk ?_
  refine J_eq (I' := jcp I o q 3) rfl (jcp_s hne) ?_
  refine J_aload_n dX0_copyFrom_24 rfl rfl ?_
  refine J_aload_n dX0_copyFrom_25 rfl rfl ?_
  refine J_getI dX0_copyFrom_26 flX0_21 rfl hq ?_
  refine J_putI dX0_copyFrom_29 flX0_21 rfl rfl rfl rfl hk ?_
  refine J_eq (I' := jcp I o q 4) rfl (jcp_s hne) ?_
  refine J_aload_n dX0_copyFrom_32 rfl rfl ?_
  refine J_aload_n dX0_copyFrom_33 rfl rfl ?_
  refine J_getI dX0_copyFrom_34 flX0_24 rfl hq ?_
  refine J_putI dX0_copyFrom_37 flX0_24 rfl rfl rfl rfl hk ?_
  refine J_eq (I' := jcp I o q 5) rfl (jcp_s hne) ?_
  refine J_aload_n dX0_copyFrom_40 rfl rfl ?_
  refine J_aload_n dX0_copyFrom_41 rfl rfl ?_
  refine J_getI dX0_copyFrom_42 flX0_27 rfl hq ?_
  refine J_putI dX0_copyFrom_45 flX0_27 rfl rfl rfl rfl hk ?_
  refine J_eq (I' := jcp I o q 6) rfl (jcp_s hne) ?_
  refine J_aload_n dX0_copyFrom_48 rfl rfl ?_
  refine J_aload_n dX0_copyFrom_49 rfl rfl ?_
  refine J_getI dX0_copyFrom_50 flX0_30 rfl hq ?_
  have hz6 : jcp I o q 6 q 6 = 0 ∨ jcp I o q 6 q 6 = 1 := by rw [jcp_n hne]; exact hbb.1
  refine J_putI dX0_copyFrom_53 flX0_30 rfl rfl (jBn hz6) (jBf hz6) hk ?_
  refine J_eq (I' := jcp I o q 7) rfl (jcp_s hne) ?_
  refine J_aload_n dX0_copyFrom_56 rfl rfl ?_
  refine J_aload_n dX0_copyFrom_57 rfl rfl ?_
  refine J_getI dX0_copyFrom_58 flX0_34 rfl hq ?_
  have hz7 : jcp I o q 7 q 7 = 0 ∨ jcp I o q 7 q 7 = 1 := by rw [jcp_n hne]; exact hbb.2.1
  refine J_putI dX0_copyFrom_61 flX0_34 rfl rfl (jBn hz7) (jBf hz7) hk ?_
  refine J_eq (I' := jcp I o q 8) rfl (jcp_s hne) ?_
  refine J_aload_n dX0_copyFrom_64 rfl rfl ?_
  refine J_aload_n dX0_copyFrom_65 rfl rfl ?_
  refine J_getI dX0_copyFrom_66 flX0_40 rfl hq ?_
  refine J_putI dX0_copyFrom_69 flX0_40 rfl rfl rfl rfl hk ?_
  refine J_eq (I' := jcp I o q 9) rfl (jcp_s hne) ?_
  refine J_aload_n dX0_copyFrom_72 rfl rfl ?_
  refine J_aload_n dX0_copyFrom_73 rfl rfl ?_
  refine J_getI dX0_copyFrom_74 flX0_43 rfl hq ?_
  refine J_putI dX0_copyFrom_77 flX0_43 rfl rfl rfl rfl hk ?_
  refine J_eq (I' := jcp I o q 10) rfl (jcp_s hne) ?_
  refine J_aload_n dX0_copyFrom_80 rfl rfl ?_
  refine J_aload_n dX0_copyFrom_81 rfl rfl ?_
  refine J_getI dX0_copyFrom_82 flX0_46 rfl hq ?_
  refine J_putI dX0_copyFrom_85 flX0_46 rfl rfl rfl rfl hk ?_
  refine J_eq (I' := jcp I o q 11) rfl (jcp_s hne) ?_
  refine J_aload_n dX0_copyFrom_88 rfl rfl ?_
  refine J_aload_n dX0_copyFrom_89 rfl rfl ?_
  refine J_getI dX0_copyFrom_90 flX0_37 rfl hq ?_
  have hz11 : jcp I o q 11 q 11 = 0 ∨ jcp I o q 11 q 11 = 1 := by rw [jcp_n hne]; exact hbb.2.2
  refine J_putI dX0_copyFrom_93 flX0_37 rfl rfl (jBn hz11) (jBf hz11) hk ?_
  refine J_eq (I' := jcp I o q 12) rfl (jcp_s hne) ?_
  refine J_aload_n dX0_copyFrom_96 rfl rfl ?_
  refine J_aload_n dX0_copyFrom_97 rfl rfl ?_
  refine J_getI dX0_copyFrom_98 flX0_49 rfl hq ?_
  refine J_putI dX0_copyFrom_101 flX0_49 rfl rfl rfl rfl hk ?_
  refine J_eq (I' := jcp I o q 13) rfl (jcp_s hne) ?_
  refine J_aload_n dX0_copyFrom_104 rfl rfl ?_
  refine J_aload_n dX0_copyFrom_105 rfl rfl ?_
  refine J_getI dX0_copyFrom_106 flX0_52 rfl hq ?_
  refine J_putI dX0_copyFrom_109 flX0_52 rfl rfl rfl rfl hk ?_
  refine J_eq (I' := jcp I o q 14) rfl (jcp_s hne) ?_
  exact J_vret hR dX0_copyFrom_112 rfl (Nat.le_of_ble_eq_true rfl) (Nat.le_of_ble_eq_true rfl) (jRes_v rfl)
set_option maxRecDepth 100000 in
set_option maxHeartbeats 4000000 in
theorem kX3_copyFrom (S : jX) (I : jI) (o q : Nat) (hk : jKd S o 3 0) (hq : jKd S q 3 0) (hne : q ≠ o) : jM (0, 0, 0) mX3_copyFrom [.ref o, .ref q] S I (jRes none S (fX3_copyFrom I o q)) := by
  refine jM.of (ls := [.ref o, .ref q]) (by decide) (Nat.le_of_ble_eq_true rfl) (by intro v hv; simp only [List.mem_cons, List.not_mem_nil, or_false] at hv; rcases hv with rfl | rfl <;> rfl) rfl (fun G hR => ?_)
  refine J_eq (I' := jcp I o q 0) rfl jcp_0 ?_
  refine J_aload_n dX3_copyFrom_0 rfl rfl ?_
  refine J_aload_n dX3_copyFrom_1 rfl rfl ?_
  refine J_getI dX3_copyFrom_2 flX3_9 rfl hq ?_
  refine J_putI dX3_copyFrom_5 flX3_9 rfl rfl rfl rfl hk ?_
  refine J_eq (I' := jcp I o q 1) rfl (jcp_s hne) ?_
  refine J_aload_n dX3_copyFrom_8 rfl rfl ?_
  refine J_aload_n dX3_copyFrom_9 rfl rfl ?_
  refine J_getI dX3_copyFrom_10 flX3_15 rfl hq ?_
  refine J_putI dX3_copyFrom_13 flX3_15 rfl rfl rfl rfl hk ?_
  refine J_eq (I' := jcp I o q 2) rfl (jcp_s hne) ?_
  refine J_aload_n dX3_copyFrom_16 rfl rfl ?_
  refine J_aload_n dX3_copyFrom_17 rfl rfl ?_
  refine J_getI dX3_copyFrom_18 flX3_18 rfl hq ?_
  refine J_putI dX3_copyFrom_21 flX3_18 rfl rfl rfl rfl hk ?_
  refine J_eq (I' := jcp I o q 3) rfl (jcp_s hne) ?_
  refine J_aload_n dX3_copyFrom_24 rfl rfl ?_
  refine J_aload_n dX3_copyFrom_25 rfl rfl ?_
  refine J_getI dX3_copyFrom_26 flX3_21 rfl hq ?_
  refine J_putI dX3_copyFrom_29 flX3_21 rfl rfl rfl rfl hk ?_
  refine J_eq (I' := jcp I o q 4) rfl (jcp_s hne) ?_
  refine J_aload_n dX3_copyFrom_32 rfl rfl ?_
  refine J_aload_n dX3_copyFrom_33 rfl rfl ?_
  refine J_getI dX3_copyFrom_34 flX3_24 rfl hq ?_
  refine J_putI dX3_copyFrom_37 flX3_24 rfl rfl rfl rfl hk ?_
  refine J_eq (I' := jcp I o q 5) rfl (jcp_s hne) ?_
  exact J_vret hR dX3_copyFrom_40 rfl (Nat.le_of_ble_eq_true rfl) (Nat.le_of_ble_eq_true rfl) (jRes_v rfl)
def fX2_copyNumbers (I : jI) (q o : Nat) : jI := jcp I o q 4
set_option maxRecDepth 100000 in
set_option maxHeartbeats 4000000 in
theorem kX2_copyNumbers (S : jX) (I : jI) (q o : Nat) (hq : jKd S q 8 4) (ho : jKd S o 8 4) (hne : q ≠ o) : jM (0, 0, 0) mX2_copyNumbers [.ref q, .ref o] S I (jRes none S (fX2_copyNumbers I q o)) := by
  refine jM.of (ls := [.ref q, .ref o, .long 0]) (by decide) (Nat.le_of_ble_eq_true rfl) (by intro v hv; simp only [List.mem_cons, List.not_mem_nil, or_false] at hv; rcases hv with rfl | rfl <;> rfl) rfl (fun G hR => ?_)
  refine J_eq (I' := jcp I o q 0) rfl jcp_0 ?_
  refine J_iconst (0) dX2_copyNumbers_0 rfl ?_
  refine J_istore_n dX2_copyNumbers_1 (Nat.le_of_ble_eq_true rfl) ?_
  refine J_iload_n dX2_copyNumbers_2 rfl ?_
  refine J_aload_n dX2_copyNumbers_3 rfl rfl ?_
  refine J_alen (x := 4) dX2_copyNumbers_4 hq ⟨by decide, by decide⟩ rfl ?_
  refine J_icmp_ge (tgt := 26) dX2_copyNumbers_5 (by decide) (fun h1 => ?_) (fun h1 => ?_)
  · skip
    exact absurd h1 (by decide)
  · skip
    refine J_iload_n dX2_copyNumbers_8 rfl ?_
    refine J_aload_n dX2_copyNumbers_9 rfl rfl ?_
    refine J_alen (x := 4) dX2_copyNumbers_10 ho ⟨by decide, by decide⟩ rfl ?_
    refine J_icmp_ge (tgt := 26) dX2_copyNumbers_11 (by decide) (fun h2 => ?_) (fun h2 => ?_)
    · skip
      exact absurd h2 (by decide)
    · skip
      refine J_aload_n dX2_copyNumbers_14 rfl rfl ?_
      refine J_iload_n dX2_copyNumbers_15 rfl ?_
      refine J_aload_n dX2_copyNumbers_16 rfl rfl ?_
      refine J_iload_n dX2_copyNumbers_17 rfl ?_
      refine J_iaload dX2_copyNumbers_18 hq (by unfold vp_in; decide) ?_
      refine J_iastore dX2_copyNumbers_19 ho (by unfold vp_in; decide) ?_
      refine J_iincv (y := 1) (v := 1) dX2_copyNumbers_20 rfl rfl rfl ?_
      refine J_goto (tgt := 2) dX2_copyNumbers_23 (by decide) ?_
      refine J_eq (I' := jcp I o q 1) rfl (jcp_s hne) ?_
      refine J_iload_n dX2_copyNumbers_2 rfl ?_
      refine J_aload_n dX2_copyNumbers_3 rfl rfl ?_
      refine J_alen (x := 4) dX2_copyNumbers_4 hq ⟨by decide, by decide⟩ rfl ?_
      refine J_icmp_ge (tgt := 26) dX2_copyNumbers_5 (by decide) (fun h3 => ?_) (fun h3 => ?_)
      · skip
        exact absurd h3 (by decide)
      · skip
        refine J_iload_n dX2_copyNumbers_8 rfl ?_
        refine J_aload_n dX2_copyNumbers_9 rfl rfl ?_
        refine J_alen (x := 4) dX2_copyNumbers_10 ho ⟨by decide, by decide⟩ rfl ?_
        refine J_icmp_ge (tgt := 26) dX2_copyNumbers_11 (by decide) (fun h4 => ?_) (fun h4 => ?_)
        · skip
          exact absurd h4 (by decide)
        · skip
          refine J_aload_n dX2_copyNumbers_14 rfl rfl ?_
          refine J_iload_n dX2_copyNumbers_15 rfl ?_
          refine J_aload_n dX2_copyNumbers_16 rfl rfl ?_
          refine J_iload_n dX2_copyNumbers_17 rfl ?_
          refine J_iaload dX2_copyNumbers_18 hq (by unfold vp_in; decide) ?_
          refine J_iastore dX2_copyNumbers_19 ho (by unfold vp_in; decide) ?_
          refine J_iincv (y := 1) (v := 2) dX2_copyNumbers_20 rfl rfl rfl ?_
          refine J_goto (tgt := 2) dX2_copyNumbers_23 (by decide) ?_
          refine J_eq (I' := jcp I o q 2) rfl (jcp_s hne) ?_
          refine J_iload_n dX2_copyNumbers_2 rfl ?_
          refine J_aload_n dX2_copyNumbers_3 rfl rfl ?_
          refine J_alen (x := 4) dX2_copyNumbers_4 hq ⟨by decide, by decide⟩ rfl ?_
          refine J_icmp_ge (tgt := 26) dX2_copyNumbers_5 (by decide) (fun h5 => ?_) (fun h5 => ?_)
          · skip
            exact absurd h5 (by decide)
          · skip
            refine J_iload_n dX2_copyNumbers_8 rfl ?_
            refine J_aload_n dX2_copyNumbers_9 rfl rfl ?_
            refine J_alen (x := 4) dX2_copyNumbers_10 ho ⟨by decide, by decide⟩ rfl ?_
            refine J_icmp_ge (tgt := 26) dX2_copyNumbers_11 (by decide) (fun h6 => ?_) (fun h6 => ?_)
            · skip
              exact absurd h6 (by decide)
            · skip
              refine J_aload_n dX2_copyNumbers_14 rfl rfl ?_
              refine J_iload_n dX2_copyNumbers_15 rfl ?_
              refine J_aload_n dX2_copyNumbers_16 rfl rfl ?_
              refine J_iload_n dX2_copyNumbers_17 rfl ?_
              refine J_iaload dX2_copyNumbers_18 hq (by unfold vp_in; decide) ?_
              refine J_iastore dX2_copyNumbers_19 ho (by unfold vp_in; decide) ?_
              refine J_iincv (y := 1) (v := 3) dX2_copyNumbers_20 rfl rfl rfl ?_
              refine J_goto (tgt := 2) dX2_copyNumbers_23 (by decide) ?_
              refine J_eq (I' := jcp I o q 3) rfl (jcp_s hne) ?_
              refine J_iload_n dX2_copyNumbers_2 rfl ?_
              refine J_aload_n dX2_copyNumbers_3 rfl rfl ?_
              refine J_alen (x := 4) dX2_copyNumbers_4 hq ⟨by decide, by decide⟩ rfl ?_
              refine J_icmp_ge (tgt := 26) dX2_copyNumbers_5 (by decide) (fun h7 => ?_) (fun h7 => ?_)
              · skip
                exact absurd h7 (by decide)
              · skip
                refine J_iload_n dX2_copyNumbers_8 rfl ?_
                refine J_aload_n dX2_copyNumbers_9 rfl rfl ?_
                refine J_alen (x := 4) dX2_copyNumbers_10 ho ⟨by decide, by decide⟩ rfl ?_
                refine J_icmp_ge (tgt := 26) dX2_copyNumbers_11 (by decide) (fun h8 => ?_) (fun h8 => ?_)
                · skip
                  exact absurd h8 (by decide)
                · skip
                  refine J_aload_n dX2_copyNumbers_14 rfl rfl ?_
                  refine J_iload_n dX2_copyNumbers_15 rfl ?_
                  refine J_aload_n dX2_copyNumbers_16 rfl rfl ?_
                  refine J_iload_n dX2_copyNumbers_17 rfl ?_
                  refine J_iaload dX2_copyNumbers_18 hq (by unfold vp_in; decide) ?_
                  refine J_iastore dX2_copyNumbers_19 ho (by unfold vp_in; decide) ?_
                  refine J_iincv (y := 1) (v := 4) dX2_copyNumbers_20 rfl rfl rfl ?_
                  refine J_goto (tgt := 2) dX2_copyNumbers_23 (by decide) ?_
                  refine J_eq (I' := jcp I o q 4) rfl (jcp_s hne) ?_
                  refine J_iload_n dX2_copyNumbers_2 rfl ?_
                  refine J_aload_n dX2_copyNumbers_3 rfl rfl ?_
                  refine J_alen (x := 4) dX2_copyNumbers_4 hq ⟨by decide, by decide⟩ rfl ?_
                  refine J_icmp_ge (tgt := 26) dX2_copyNumbers_5 (by decide) (fun h9 => ?_) (fun h9 => ?_)
                  · skip
                    exact J_vret hR dX2_copyNumbers_26 rfl (Nat.le_of_ble_eq_true rfl) (Nat.le_of_ble_eq_true rfl) (jRes_v rfl)
                  · skip
                    exact absurd h9 (by decide)
theorem boilerAt_ok {I : jI} {o n i : Nat} (hn : n ≤ 8) (hc : I o 4 = nI n) (hi : i < n) : fX2_boilerAt I o (nI i) = some (o + 5 + i) := by
  unfold fX2_boilerAt
  rw [if_neg (nI_pos (by omega)), hc, if_neg (nI_ge hi (by omega)), if_neg (show ¬ (8 : Int32) ≤ nI i from nI_ge (a := i) (b := 8) (by omega) (by decide)), nI_clamp (by omega)]
theorem inspectorAt_ok {I : jI} {o n i : Nat} (hn : n ≤ 6) (hc : I o 5 = nI n) (hi : i < n) : fX2_inspectorAt I o (nI i) = some (o + 13 + i) := by
  unfold fX2_inspectorAt
  rw [if_neg (nI_pos (by omega)), hc, if_neg (nI_ge hi (by omega)), if_neg (show ¬ (6 : Int32) ≤ nI i from nI_ge (a := i) (b := 6) (by omega) (by decide)), nI_clamp (by omega)]
def hcp1 (I : jI) (o q : Nat) : jI := jset (jset (jset (jset (jset I o 4 (I q 4)) o 5 (I q 5)) o 6 (I q 6)) o 7 (I q 7)) o 8 (I q 8)
def hcp3 (I : jI) (o q : Nat) : jI := jcp (jcp (hcp1 I o q) (o + 3) (q + 3) 4) (o + 4) (q + 4) 4
def hcpB (I : jI) (o q : Nat) : Nat → jI
  | 0 => I
  | i + 1 => jcp (hcpB I o q i) (o + 5 + i) (q + 5 + i) 14
def hcpI (I : jI) (o q : Nat) : Nat → jI
  | 0 => I
  | i + 1 => jcp (hcpI I o q i) (o + 13 + i) (q + 13 + i) 5
def fX2_copyFrom (I : jI) (o q : Nat) : jI := hcpI (hcpB (hcp3 I o q) o q (I q 4).toNatClampNeg) o q (I q 5).toNatClampNeg
theorem hcpB_n {I : jI} {o q a : Nat} : ∀ {i : Nat}, (a < o + 5 ∨ o + 5 + i ≤ a) → hcpB I o q i a = I a
  | 0, _ => rfl
  | i + 1, h => (jrow_ne (by omega)).trans (hcpB_n (by omega))
theorem hcpI_n {I : jI} {o q a : Nat} : ∀ {i : Nat}, (a < o + 13 ∨ o + 13 + i ≤ a) → hcpI I o q i a = I a
  | 0, _ => rfl
  | i + 1, h => (jrow_ne (by omega)).trans (hcpI_n (by omega))
theorem hcp1_n {I : jI} {o q a : Nat} (h : a ≠ o) : hcp1 I o q a = I a := by funext k; simp [hcp1, jset, h]
theorem hcp3_n {I : jI} {o q a : Nat} (h : a ≠ o ∧ a ≠ o + 3 ∧ a ≠ o + 4) : hcp3 I o q a = I a := by
  unfold hcp3 jcp
  rw [jrow_ne h.2.2, jrow_ne h.2.1, hcp1_n h.1]
theorem hcp3_o {I : jI} {o q : Nat} : hcp3 I o q o = hcp1 I o q o := by
  unfold hcp3 jcp
  rw [jrow_ne (by omega), jrow_ne (by omega)]
theorem hcp1_k {I : jI} {o q k : Nat} (hne : q ≠ o) (h : 4 ≤ k ∧ k < 9) : hcp1 I o q o k = I q k := by
  unfold hcp1
  rcases (show k = 4 ∨ k = 5 ∨ k = 6 ∨ k = 7 ∨ k = 8 by omega) with rfl | rfl | rfl | rfl | rfl <;> simp [jset, hne]
/-- two houses that share no cell -/
def jApart (o q : Nat) : Prop := o + 19 ≤ q ∨ q + 19 ≤ o
/-- what a house's numbers always are -/
def jHInv (I : jI) (o : Nat) : Prop := (∃ n : Nat, n ≤ 8 ∧ I o 4 = nI n ∧ ∀ i, i < n → jBb I (o + 5 + i)) ∧ ∃ m : Nat, m ≤ 6 ∧ I o 5 = nI m
set_option maxRecDepth 100000 in
set_option maxHeartbeats 4000000 in
theorem l1X2_copyFrom {S : jX} {I : jI} {o q : Nat} {G : jG} (hH : jHouse S o) (hQ : jHouse S q) (hap : jApart o q) {n : Nat} (hn : n ≤ 8) (hc : I o 4 = nI n) (hcq0 : I q 4 = nI n) (hbb0 : ∀ i, i < n → jBb I (q + 5 + i)) (hnx : ∀ v8 v9 : Value, J G (1, 0, 0) mX2_copyFrom 106 [.ref o, .ref q, .int (nI n), v8, v9] [] S (hcpB I o q n) 0 0) : ∀ (c i : Nat), i + c = n → ∀ v8 v9 : Value, J G (1, 0, 0) mX2_copyFrom 64 [.ref o, .ref q, .int (nI i), v8, v9] [] S (hcpB I o q i) 0 0 := by
  intro c
  induction c with
  | zero =>
    intro i hi v8 v9
    have hi2 : i = n := by omega
    subst hi2
    have hcc : hcpB I o q i o 4 = nI i := by rw [hcpB_n (by omega)]; exact hc
    refine J_iload_n dX2_copyFrom_64 rfl ?_
    refine J_aload_n dX2_copyFrom_65 rfl rfl ?_
    refine J_getI dX2_copyFrom_66 flX2_32 rfl hH.1 ?_
    refine J_icmp_ge (tgt := 106) dX2_copyFrom_69 (by decide) (fun h1 => ?_) (fun h1 => ?_)
    · skip
      exact hnx _ _
    · skip
      exact absurd (by rw [hcc]; exact Int32.le_refl _) h1
  | succ c ih =>
    intro i hi v8 v9
    have hcc : hcpB I o q i o 4 = nI n := by rw [hcpB_n (by omega)]; exact hc
    have hcq : hcpB I o q i q 4 = nI n := by rw [hcpB_n (by unfold jApart at hap; omega)]; exact hcq0
    have hbb : jBb (hcpB I o q i) (q + 5 + i) := by unfold jBb; rw [hcpB_n (by unfold jApart at hap; omega)]; exact hbb0 i (by omega)
    refine J_iload_n dX2_copyFrom_64 rfl ?_
    refine J_aload_n dX2_copyFrom_65 rfl rfl ?_
    refine J_getI dX2_copyFrom_66 flX2_32 rfl hH.1 ?_
    refine J_icmp_ge (tgt := 106) dX2_copyFrom_69 (by decide) (fun h1 => ?_) (fun h1 => ?_)
    · skip
      exact absurd h1 (by rw [hcc]; exact nI_ge (by omega) (by omega))
    · skip
      refine J_aload_n dX2_copyFrom_72 rfl rfl ?_
      refine J_iload_n dX2_copyFrom_73 rfl ?_
      refine J_cV1r (mc := mX2_boilerAt) hQ.1 (by decide) rfl dX2_copyFrom_74 mlX2_52 okX2_boilerAt (kX2_boilerAt S (hcpB I o q i) q (nI i) hQ) (Nat.le_of_ble_eq_true rfl) (Nat.le_of_ble_eq_true rfl) (Nat.le_of_ble_eq_true rfl) (Nat.le_of_ble_eq_true rfl) ?_
      rw [boilerAt_ok hn hcq (by omega)]
      refine J_astore_n dX2_copyFrom_77 (Nat.le_of_ble_eq_true rfl) rfl ?_
      refine J_aload_n dX2_copyFrom_78 rfl rfl ?_
      refine J_iload_n dX2_copyFrom_79 rfl ?_
      refine J_cV1r (mc := mX2_boilerAt) hH.1 (by decide) rfl dX2_copyFrom_80 mlX2_52 okX2_boilerAt (kX2_boilerAt S (hcpB I o q i) o (nI i) hH) (Nat.le_of_ble_eq_true rfl) (Nat.le_of_ble_eq_true rfl) (Nat.le_of_ble_eq_true rfl) (Nat.le_of_ble_eq_true rfl) ?_
      rw [boilerAt_ok hn hcc (by omega)]
      refine J_astore dX2_copyFrom_83 (Nat.le_of_ble_eq_true rfl) rfl ?_
      refine J_aload_n dX2_copyFrom_85 rfl rfl ?_
      refine J_ifnull_r dX2_copyFrom_86 ?_
      refine J_aload dX2_copyFrom_89 rfl rfl ?_
      refine J_ifnull_r dX2_copyFrom_91 ?_
      refine J_aload dX2_copyFrom_94 rfl rfl ?_
      refine J_aload_n dX2_copyFrom_96 rfl rfl ?_
      refine J_cV1 (mc := mX0_copyFrom) (hH.b (by omega : i < 8)).1 (by decide) rfl dX2_copyFrom_97 mlX2_56 okX0_copyFrom (kX0_copyFrom S (hcpB I o q i) (o + 5 + i) (q + 5 + i) (hH.b (by omega : i < 8)).1 (hQ.b (by omega : i < 8)).1 (by have := hap; unfold jApart at this; omega) hbb) (Nat.le_of_ble_eq_true rfl) (Nat.le_of_ble_eq_true rfl) (Nat.le_of_ble_eq_true rfl) (Nat.le_of_ble_eq_true rfl) ?_
      refine J_iinc (y := 1) dX2_copyFrom_100 rfl rfl ?_
      refine J_goto (tgt := 64) dX2_copyFrom_103 (by decide) ?_
      refine J_eq (ls' := [.ref o, .ref q, .int (nI (i + 1)), .ref (q + 5 + i), .ref (o + 5 + i)]) (by rw [← nI_1]; rfl) rfl (ih (i + 1) (by omega) _ _)
set_option maxRecDepth 100000 in
set_option maxHeartbeats 4000000 in
theorem l2X2_copyFrom {S : jX} {I : jI} {o q : Nat} {G : jG} {Φ : Option Value → jX → jI → Prop} (hR : jR G (1, 0, 0) Φ) (hH : jHouse S o) (hQ : jHouse S q) (hap : jApart o q) {n : Nat} (hm : n ≤ 6) (hc : I o 5 = nI n) (hcq0 : I q 5 = nI n) (hΦ : Φ none S (hcpI I o q n)) : ∀ (c i : Nat), i + c = n → ∀ v8 v9 : Value, J G (1, 0, 0) mX2_copyFrom 108 [.ref o, .ref q, .int (nI i), v8, v9] [] S (hcpI I o q i) 0 0 := by
  intro c
  induction c with
  | zero =>
    intro i hi v8 v9
    have hi2 : i = n := by omega
    subst hi2
    have hcc : hcpI I o q i o 5 = nI i := by rw [hcpI_n (by omega)]; exact hc
    refine J_iload_n dX2_copyFrom_108 rfl ?_
    refine J_aload_n dX2_copyFrom_109 rfl rfl ?_
    refine J_getI dX2_copyFrom_110 flX2_36 rfl hH.1 ?_
    refine J_icmp_ge (tgt := 150) dX2_copyFrom_113 (by decide) (fun h1 => ?_) (fun h1 => ?_)
    · skip
      exact J_vret hR dX2_copyFrom_150 rfl (Nat.le_of_ble_eq_true rfl) (Nat.le_of_ble_eq_true rfl) hΦ
    · skip
      exact absurd (by rw [hcc]; exact Int32.le_refl _) h1
  | succ c ih =>
    intro i hi v8 v9
    have hcc : hcpI I o q i o 5 = nI n := by rw [hcpI_n (by omega)]; exact hc
    have hcq : hcpI I o q i q 5 = nI n := by rw [hcpI_n (by unfold jApart at hap; omega)]; exact hcq0
    refine J_iload_n dX2_copyFrom_108 rfl ?_
    refine J_aload_n dX2_copyFrom_109 rfl rfl ?_
    refine J_getI dX2_copyFrom_110 flX2_36 rfl hH.1 ?_
    refine J_icmp_ge (tgt := 150) dX2_copyFrom_113 (by decide) (fun h1 => ?_) (fun h1 => ?_)
    · skip
      exact absurd h1 (by rw [hcc]; exact nI_ge (by omega) (by omega))
    · skip
      refine J_aload_n dX2_copyFrom_116 rfl rfl ?_
      refine J_iload_n dX2_copyFrom_117 rfl ?_
      refine J_cV1r (mc := mX2_inspectorAt) hQ.1 (by decide) rfl dX2_copyFrom_118 mlX2_60 okX2_inspectorAt (kX2_inspectorAt S (hcpI I o q i) q (nI i) hQ) (Nat.le_of_ble_eq_true rfl) (Nat.le_of_ble_eq_true rfl) (Nat.le_of_ble_eq_true rfl) (Nat.le_of_ble_eq_true rfl) ?_
      rw [inspectorAt_ok hm hcq (by omega)]
      refine J_astore_n dX2_copyFrom_121 (Nat.le_of_ble_eq_true rfl) rfl ?_
      refine J_aload_n dX2_copyFrom_122 rfl rfl ?_
      refine J_iload_n dX2_copyFrom_123 rfl ?_
      refine J_cV1r (mc := mX2_inspectorAt) hH.1 (by decide) rfl dX2_copyFrom_124 mlX2_60 okX2_inspectorAt (kX2_inspectorAt S (hcpI I o q i) o (nI i) hH) (Nat.le_of_ble_eq_true rfl) (Nat.le_of_ble_eq_true rfl) (Nat.le_of_ble_eq_true rfl) (Nat.le_of_ble_eq_true rfl) ?_
      rw [inspectorAt_ok hm hcc (by omega)]
      refine J_astore dX2_copyFrom_127 (Nat.le_of_ble_eq_true rfl) rfl ?_
      refine J_aload_n dX2_copyFrom_129 rfl rfl ?_
      refine J_ifnull_r dX2_copyFrom_130 ?_
      refine J_aload dX2_copyFrom_133 rfl rfl ?_
      refine J_ifnull_r dX2_copyFrom_135 ?_
      refine J_aload dX2_copyFrom_138 rfl rfl ?_
      refine J_aload_n dX2_copyFrom_140 rfl rfl ?_
      refine J_cV1 (mc := mX3_copyFrom) (hH.c (by omega : i < 6)).1 (by decide) rfl dX2_copyFrom_141 mlX2_64 okX3_copyFrom (kX3_copyFrom S (hcpI I o q i) (o + 13 + i) (q + 13 + i) (hH.c (by omega : i < 6)).1 (hQ.c (by omega : i < 6)).1 (by have := hap; unfold jApart at this; omega)) (Nat.le_of_ble_eq_true rfl) (Nat.le_of_ble_eq_true rfl) (Nat.le_of_ble_eq_true rfl) (Nat.le_of_ble_eq_true rfl) ?_
      refine J_iinc (y := 1) dX2_copyFrom_144 rfl rfl ?_
      refine J_goto (tgt := 108) dX2_copyFrom_147 (by decide) ?_
      refine J_eq (ls' := [.ref o, .ref q, .int (nI (i + 1)), .ref (q + 13 + i), .ref (o + 13 + i)]) (by rw [← nI_1]; rfl) rfl (ih (i + 1) (by omega) _ _)
set_option maxRecDepth 100000 in
set_option maxHeartbeats 4000000 in
theorem kX2_copyFrom (S : jX) (I : jI) (o q : Nat) (hH : jHouse S o) (hQ : jHouse S q) (hap : jApart o q) (hI : jHInv I q) : jM (1, 0, 0) mX2_copyFrom [.ref o, .ref q] S I (jRes none S (fX2_copyFrom I o q)) := by
  refine jM.of (ls := [.ref o, .ref q, .long 0, .long 0, .long 0]) (by decide) (Nat.le_of_ble_eq_true rfl) (by intro v hv; simp only [List.mem_cons, List.not_mem_nil, or_false] at hv; rcases hv with rfl | rfl <;> rfl) rfl (fun G hR => ?_)
  obtain ⟨⟨n, hn, hc, hbb⟩, m, hm, hc1⟩ := hI
  have hne : q ≠ o := by unfold jApart at hap; omega
  refine J_aload_n dX2_copyFrom_0 rfl rfl ?_
  refine J_aload_n dX2_copyFrom_1 rfl rfl ?_
  refine J_getI dX2_copyFrom_2 flX2_32 rfl hQ.1 ?_
  refine J_putI dX2_copyFrom_5 flX2_32 rfl rfl rfl rfl hH.1 ?_
  refine J_aload_n dX2_copyFrom_8 rfl rfl ?_
  refine J_aload_n dX2_copyFrom_9 rfl rfl ?_
  refine J_getI dX2_copyFrom_10 flX2_36 rfl hQ.1 ?_
  refine J_putI dX2_copyFrom_13 flX2_36 rfl rfl rfl rfl hH.1 ?_
  refine J_aload_n dX2_copyFrom_16 rfl rfl ?_
  refine J_aload_n dX2_copyFrom_17 rfl rfl ?_
  refine J_getI dX2_copyFrom_18 flX2_39 rfl hQ.1 ?_
  refine J_putI dX2_copyFrom_21 flX2_39 rfl rfl rfl rfl hH.1 ?_
  refine J_aload_n dX2_copyFrom_24 rfl rfl ?_
  refine J_aload_n dX2_copyFrom_25 rfl rfl ?_
  refine J_getI dX2_copyFrom_26 flX2_42 rfl hQ.1 ?_
  refine J_putI dX2_copyFrom_29 flX2_42 rfl rfl rfl rfl hH.1 ?_
  refine J_aload_n dX2_copyFrom_32 rfl rfl ?_
  refine J_aload_n dX2_copyFrom_33 rfl rfl ?_
  refine J_getI dX2_copyFrom_34 flX2_45 rfl hQ.1 ?_
  refine J_putI dX2_copyFrom_37 flX2_45 rfl rfl rfl rfl hH.1 ?_
  refine J_eq (I' := hcp1 I o q) rfl (by unfold hcp1; simp only [jset, hne, false_and, if_false]) ?_
  refine J_aload_n dX2_copyFrom_40 rfl rfl ?_
  refine J_getR dX2_copyFrom_41 flX2_23 rfl hQ.1 hQ.r2 ?_
  refine J_aload_n dX2_copyFrom_44 rfl rfl ?_
  refine J_getR dX2_copyFrom_45 flX2_23 rfl hH.1 hH.r2 ?_
  refine J_cS2 (mc := mX2_copyNumbers) dX2_copyFrom_48 mlX2_48 okX2_copyNumbers (kX2_copyNumbers S (hcp1 I o q) (q + 3) (o + 3) hQ.a2 hH.a2 (by unfold jApart at hap; omega)) (Nat.le_of_ble_eq_true rfl) (Nat.le_of_ble_eq_true rfl) (Nat.le_of_ble_eq_true rfl) (Nat.le_of_ble_eq_true rfl) ?_
  refine J_aload_n dX2_copyFrom_51 rfl rfl ?_
  refine J_getR dX2_copyFrom_52 flX2_27 rfl hQ.1 hQ.r3 ?_
  refine J_aload_n dX2_copyFrom_55 rfl rfl ?_
  refine J_getR dX2_copyFrom_56 flX2_27 rfl hH.1 hH.r3 ?_
  refine J_cS2 (mc := mX2_copyNumbers) dX2_copyFrom_59 mlX2_48 okX2_copyNumbers (kX2_copyNumbers S (fX2_copyNumbers (hcp1 I o q) (q + 3) (o + 3)) (q + 4) (o + 4) hQ.a3 hH.a3 (by unfold jApart at hap; omega)) (Nat.le_of_ble_eq_true rfl) (Nat.le_of_ble_eq_true rfl) (Nat.le_of_ble_eq_true rfl) (Nat.le_of_ble_eq_true rfl) ?_
  refine J_eq (I' := hcp3 I o q) rfl rfl ?_
  refine J_iconst (0) dX2_copyFrom_62 rfl ?_
  refine J_istore_n dX2_copyFrom_63 (Nat.le_of_ble_eq_true rfl) ?_
  refine l1X2_copyFrom (I := hcp3 I o q) hH hQ hap hn (by rw [hcp3_o, hcp1_k hne (by omega)]; exact hc) (by rw [hcp3_n (by unfold jApart at hap; omega)]; exact hc) (fun i hi => by unfold jBb; rw [hcp3_n (by unfold jApart at hap; omega)]; exact hbb i hi) (fun v8 v9 => ?_) n 0 (by omega) _ _
  refine J_iconst (0) dX2_copyFrom_106 rfl ?_
  refine J_istore_n dX2_copyFrom_107 (Nat.le_of_ble_eq_true rfl) ?_
  refine l2X2_copyFrom (I := hcpB (hcp3 I o q) o q n) hR hH hQ hap hm (by rw [hcpB_n (by omega), hcp3_o, hcp1_k hne (by omega)]; exact hc1) (by rw [hcpB_n (by unfold jApart at hap; omega), hcp3_n (by unfold jApart at hap; omega)]; exact hc1) ?_ m 0 (by omega) _ _
  show jRes _ _ _ _ _ _
  unfold fX2_copyFrom
  rw [hc, hc1, nI_clamp (by omega), nI_clamp (by omega)]
  exact ⟨rfl, rfl, rfl⟩
