def fX7_begins (I : jI) (o : Nat) : jI := jrow I (o + 2) (fun k => if k < 141 then I (o + 1) k else I (o + 2) k)
set_option maxHeartbeats 4000000 in
theorem lX7_begins {S : jX} {I : jI} {o : Nat} (hM : jModel S o) {G : jG} (hR : jR G (0, 0, 0) (jRes none S (fX7_begins I o))) : ∀ (c i : Nat) (I1 : jI), i + c = 141 → I1 = jrow I (o + 2) (fun k => if k < i then I (o + 1) k else I (o + 2) k) → J G (0, 0, 0) mX7_begins 2 [.ref o, .int (nI i)] [] S I1 0 0 := by
  intro c
  induction c with
  | zero =>
    intro i I1 hi hI1
    refine J_iload_n dX7_begins_2 rfl ?_
    refine J_sipush (141) dX7_begins_3 rfl ?_
    refine J_icmp_ge (tgt := 27) dX7_begins_6 (by decide) (fun h1 => ?_) (fun h1 => ?_)
    · skip
      exact J_vret hR dX7_begins_27 rfl (Nat.le_of_ble_eq_true rfl) (Nat.le_of_ble_eq_true rfl) (jRes_v (by rw [hI1, show i = 141 by omega]; rfl))
    · skip
      exact absurd (nI_le (a := 141) (b := i) (by omega) (by omega)) h1
  | succ c ih =>
    intro i I1 hi hI1
    refine J_iload_n dX7_begins_2 rfl ?_
    refine J_sipush (141) dX7_begins_3 rfl ?_
    refine J_icmp_ge (tgt := 27) dX7_begins_6 (by decide) (fun h1 => ?_) (fun h1 => ?_)
    · skip
      exact absurd h1 (nI_ge (a := i) (b := 141) (by omega) (by decide))
    · skip
      refine J_aload_n dX7_begins_9 rfl rfl ?_
      refine J_getR dX7_begins_10 flX7_13 rfl hM.1 hM.r1 ?_
      refine J_iload_n dX7_begins_13 rfl ?_
      refine J_aload_n dX7_begins_14 rfl rfl ?_
      refine J_getR dX7_begins_15 flX7_7 rfl hM.1 hM.r0 ?_
      refine J_iload_n dX7_begins_18 rfl ?_
      refine J_iaload dX7_begins_19 hM.a0 (vp_in_nI (n := i) (by omega) (by decide)) ?_
      refine J_iastore dX7_begins_20 hM.a1 (vp_in_nI (n := i) (by omega) (by decide)) ?_
      refine J_iinc (y := 1) dX7_begins_21 rfl rfl ?_
      refine J_goto (tgt := 2) dX7_begins_24 (by decide) ?_
      refine J_eq (ls' := [.ref o, .int (nI (i + 1))]) (by rw [← nI_1]; rfl) rfl (ih (i + 1) _ (by omega) ?_)
      rw [nI_clamp (by omega), hI1, jrow_ne (by omega), jrow_step]
      exact congrArg _ (jcpy _ _ i)
theorem kX7_begins (S : jX) (I : jI) (o : Nat) (hM : jModel S o) : jM (0, 0, 0) mX7_begins [.ref o] S I (jRes none S (fX7_begins I o)) := by
  refine jM.of (ls := [.ref o, .long 0]) (by decide) (Nat.le_of_ble_eq_true rfl) (by intro v hv; simp only [List.mem_cons, List.not_mem_nil, or_false] at hv; rcases hv with rfl <;> rfl) rfl (fun G hR => ?_)
  refine J_iconst (0) dX7_begins_0 rfl ?_
  refine J_istore_n dX7_begins_1 (Nat.le_of_ble_eq_true rfl) ?_
  exact lX7_begins hM hR 141 0 I (by omega) (jrow_init (fun k => if_neg (by omega)))
def fX7_returns (I : jI) (o : Nat) : jI := jrow I (o + 1) (fun k => if k < 141 then I (o + 2) k else I (o + 1) k)
set_option maxHeartbeats 4000000 in
theorem lX7_returns {S : jX} {I : jI} {o : Nat} (hM : jModel S o) {G : jG} (hR : jR G (0, 0, 0) (jRes none S (fX7_returns I o))) : ∀ (c i : Nat) (I1 : jI), i + c = 141 → I1 = jrow I (o + 1) (fun k => if k < i then I (o + 2) k else I (o + 1) k) → J G (0, 0, 0) mX7_returns 2 [.ref o, .int (nI i)] [] S I1 0 0 := by
  intro c
  induction c with
  | zero =>
    intro i I1 hi hI1
    refine J_iload_n dX7_returns_2 rfl ?_
    refine J_sipush (141) dX7_returns_3 rfl ?_
    refine J_icmp_ge (tgt := 27) dX7_returns_6 (by decide) (fun h1 => ?_) (fun h1 => ?_)
    · skip
      exact J_vret hR dX7_returns_27 rfl (Nat.le_of_ble_eq_true rfl) (Nat.le_of_ble_eq_true rfl) (jRes_v (by rw [hI1, show i = 141 by omega]; rfl))
    · skip
      exact absurd (nI_le (a := 141) (b := i) (by omega) (by omega)) h1
  | succ c ih =>
    intro i I1 hi hI1
    refine J_iload_n dX7_returns_2 rfl ?_
    refine J_sipush (141) dX7_returns_3 rfl ?_
    refine J_icmp_ge (tgt := 27) dX7_returns_6 (by decide) (fun h1 => ?_) (fun h1 => ?_)
    · skip
      exact absurd h1 (nI_ge (a := i) (b := 141) (by omega) (by decide))
    · skip
      refine J_aload_n dX7_returns_9 rfl rfl ?_
      refine J_getR dX7_returns_10 flX7_7 rfl hM.1 hM.r0 ?_
      refine J_iload_n dX7_returns_13 rfl ?_
      refine J_aload_n dX7_returns_14 rfl rfl ?_
      refine J_getR dX7_returns_15 flX7_13 rfl hM.1 hM.r1 ?_
      refine J_iload_n dX7_returns_18 rfl ?_
      refine J_iaload dX7_returns_19 hM.a1 (vp_in_nI (n := i) (by omega) (by decide)) ?_
      refine J_iastore dX7_returns_20 hM.a0 (vp_in_nI (n := i) (by omega) (by decide)) ?_
      refine J_iinc (y := 1) dX7_returns_21 rfl rfl ?_
      refine J_goto (tgt := 2) dX7_returns_24 (by decide) ?_
      refine J_eq (ls' := [.ref o, .int (nI (i + 1))]) (by rw [← nI_1]; rfl) rfl (ih (i + 1) _ (by omega) ?_)
      rw [nI_clamp (by omega), hI1, jrow_ne (by omega), jrow_step]
      exact congrArg _ (jcpy _ _ i)
theorem kX7_returns (S : jX) (I : jI) (o : Nat) (hM : jModel S o) : jM (0, 0, 0) mX7_returns [.ref o] S I (jRes none S (fX7_returns I o)) := by
  refine jM.of (ls := [.ref o, .long 0]) (by decide) (Nat.le_of_ble_eq_true rfl) (by intro v hv; simp only [List.mem_cons, List.not_mem_nil, or_false] at hv; rcases hv with rfl <;> rfl) rfl (fun G hR => ?_)
  refine J_iconst (0) dX7_returns_0 rfl ?_
  refine J_istore_n dX7_returns_1 (Nat.le_of_ble_eq_true rfl) ?_
  exact lX7_returns hM hR 141 0 I (by omega) (jrow_init (fun k => if_neg (by omega)))
/-- the history moves one place down -/
def jshift (I : jI) (o : Nat) : jI := jset (jrow I (o + 3) (fun k => if k < 423 then I (o + 3) (k + 141) else I (o + 3) k)) o 3 (I o 3 - 1)
/-- the begun state comes into the history -/
def jkeep (I : jI) (o : Nat) (st : Nat) : jI := jset (jrow I (o + 3) (fun k => if 141 * st ≤ k ∧ k < 141 * st + 141 then I (o + 2) (k - 141 * st) else I (o + 3) k)) o 3 (I o 3 + 1)
def jsaved (I : jI) (o : Nat) : jI := if I o 3 = 4 then jkeep (jshift I o) o 3 else jkeep I o (I o 3).toNatClampNeg
def fX7_acted (I : jI) (o : Nat) (x : Int32) : Int32 × jI := if (-2000000001) < x then (x, jsaved I o) else (x, fX7_returns I o)
def jStates (I : jI) (o : Nat) : Prop := ∃ st : Nat, st ≤ 4 ∧ I o 3 = nI st
set_option maxHeartbeats 4000000 in
theorem l2X7_acted {S : jX} {I2 : jI} {o : Nat} {x : Int32} (hM : jModel S o) {G : jG} {Φ : Option Value → jX → jI → Prop} (hR : jR G (1, 0, 0) Φ) {st : Nat} (hst : st < 4) (he : I2 o 3 = nI st) (hΦ : Φ (some (.int x)) S (jkeep I2 o st)) : ∀ (c i : Nat) (I1 : jI), i + c = 141 → I1 = jrow I2 (o + 3) (fun k => if 141 * st ≤ k ∧ k < 141 * st + i then I2 (o + 2) (k - 141 * st) else I2 (o + 3) k) → J G (1, 0, 0) mX7_acted 63 [.ref o, .int x, .int (nI i)] [] S I1 0 0 := by
  intro c
  induction c with
  | zero =>
    intro i I1 hi hI1
    have hi2 : i = 141 := by omega
    subst hi2
    have e0 : I1 o 3 = I2 o 3 := by rw [hI1, jrow_ne (by omega)]
    refine J_iload_n dX7_acted_63 rfl ?_
    refine J_sipush (141) dX7_acted_64 rfl ?_
    refine J_icmp_ge (tgt := 97) dX7_acted_67 (by decide) (fun h1 => ?_) (fun h1 => ?_)
    · skip
      refine J_aload_n dX7_acted_97 rfl rfl ?_
      refine J_dup dX7_acted_98 rfl ?_
      refine J_getI dX7_acted_99 flX7_26 rfl hM.1 ?_
      refine J_iconst (1) dX7_acted_102 rfl ?_
      refine J_iadd dX7_acted_103 ?_
      refine J_putI dX7_acted_104 flX7_26 rfl rfl rfl rfl hM.1 ?_
      refine J_iload_n dX7_acted_107 rfl ?_
      exact J_iret (ty := .int) hR dX7_acted_108 rfl rfl (Nat.le_of_ble_eq_true rfl) (Nat.le_of_ble_eq_true rfl) (by rw [e0, hI1]; exact hΦ)
    · skip
      exact absurd (nI_le (a := 141) (b := 141) (by omega) (by omega)) h1
  | succ c ih =>
    intro i I1 hi hI1
    have e0 : I1 o 3 = nI st := by rw [hI1, jrow_ne (by omega), he]
    have e1 : (141 : Int32) * I1 o 3 + nI i = nI (141 * st + i) := by
      rw [e0, show (141 : Int32) = nI 141 from rfl, pk_mul, nI_add]
    refine J_iload_n dX7_acted_63 rfl ?_
    refine J_sipush (141) dX7_acted_64 rfl ?_
    refine J_icmp_ge (tgt := 97) dX7_acted_67 (by decide) (fun h1 => ?_) (fun h1 => ?_)
    · skip
      exact absurd h1 (nI_ge (a := i) (b := 141) (by omega) (by decide))
    · skip
      refine J_aload_n dX7_acted_70 rfl rfl ?_
      refine J_getR dX7_acted_71 flX7_16 rfl hM.1 hM.r2 ?_
      refine J_sipush (141) dX7_acted_74 rfl ?_
      refine J_aload_n dX7_acted_77 rfl rfl ?_
      refine J_getI dX7_acted_78 flX7_26 rfl hM.1 ?_
      refine J_imul dX7_acted_81 ?_
      refine J_iload_n dX7_acted_82 rfl ?_
      refine J_iadd dX7_acted_83 ?_
      refine J_aload_n dX7_acted_84 rfl rfl ?_
      refine J_getR dX7_acted_85 flX7_13 rfl hM.1 hM.r1 ?_
      refine J_iload_n dX7_acted_88 rfl ?_
      refine J_iaload dX7_acted_89 hM.a1 (vp_in_nI (n := i) (by omega) (by decide)) ?_
      refine J_iastore dX7_acted_90 hM.a2 (by rw [e1]; exact vp_in_nI (n := 141 * st + i) (by omega) (by decide)) ?_
      refine J_iinc (y := 1) dX7_acted_91 rfl rfl ?_
      refine J_goto (tgt := 63) dX7_acted_94 (by decide) ?_
      refine J_eq (ls' := [.ref o, .int x, .int (nI (i + 1))]) (by rw [← nI_1]; rfl) rfl (ih (i + 1) _ (by omega) ?_)
      rw [e1, nI_clamp (n := i) (by omega), nI_clamp (n := 141 * st + i) (by omega), hI1, jrow_ne (by omega), jrow_step]
      exact congrArg _ (jcpyb (I2 (o + 2)) (I2 (o + 3)) (141 * st) i)
set_option maxHeartbeats 4000000 in
theorem l1X7_acted {S : jX} {I : jI} {o : Nat} {x : Int32} (hM : jModel S o) {G : jG} {Φ : Option Value → jX → jI → Prop} (hR : jR G (1, 0, 0) Φ) (he : I o 3 = nI 4) (hΦ : Φ (some (.int x)) S (jkeep (jshift I o) o 3)) : ∀ (c i : Nat) (I1 : jI), i + c = 423 → I1 = jrow I (o + 3) (fun k => if k < i then I (o + 3) (k + 141) else I (o + 3) k) → J G (1, 0, 0) mX7_acted 22 [.ref o, .int x, .int (nI i)] [] S I1 0 0 := by
  intro c
  induction c with
  | zero =>
    intro i I1 hi hI1
    have hi2 : i = 423 := by omega
    subst hi2
    have e0 : I1 o 3 = I o 3 := by rw [hI1, jrow_ne (by omega)]
    refine J_iload_n dX7_acted_22 rfl ?_
    refine J_sipush (423) dX7_acted_23 rfl ?_
    refine J_icmp_ge (tgt := 51) dX7_acted_26 (by decide) (fun h1 => ?_) (fun h1 => ?_)
    · skip
      refine J_aload_n dX7_acted_51 rfl rfl ?_
      refine J_dup dX7_acted_52 rfl ?_
      refine J_getI dX7_acted_53 flX7_26 rfl hM.1 ?_
      refine J_iconst (1) dX7_acted_56 rfl ?_
      refine J_isub dX7_acted_57 ?_
      refine J_putI dX7_acted_58 flX7_26 rfl rfl rfl rfl hM.1 ?_
      refine J_iconst (0) dX7_acted_61 rfl ?_
      refine J_istore_n dX7_acted_62 (Nat.le_of_ble_eq_true rfl) ?_
      have e2 : jset I1 o 3 (I1 o 3 - 1) = jshift I o := by rw [e0, hI1]; rfl
      rw [e2]
      exact l2X7_acted hM hR (st := 3) (by decide) (show jshift I o o 3 = nI 3 by simp [jshift, jset, he]; rfl) hΦ 141 0 _ (by omega) (jrow_init (fun k => if_neg (by omega)))
    · skip
      exact absurd (nI_le (a := 423) (b := 423) (by omega) (by omega)) h1
  | succ c ih =>
    intro i I1 hi hI1
    have e1 : nI i + (141 : Int32) = nI (i + 141) := nI_add i 141
    refine J_iload_n dX7_acted_22 rfl ?_
    refine J_sipush (423) dX7_acted_23 rfl ?_
    refine J_icmp_ge (tgt := 51) dX7_acted_26 (by decide) (fun h1 => ?_) (fun h1 => ?_)
    · skip
      exact absurd h1 (nI_ge (a := i) (b := 423) (by omega) (by decide))
    · skip
      refine J_aload_n dX7_acted_29 rfl rfl ?_
      refine J_getR dX7_acted_30 flX7_16 rfl hM.1 hM.r2 ?_
      refine J_iload_n dX7_acted_33 rfl ?_
      refine J_aload_n dX7_acted_34 rfl rfl ?_
      refine J_getR dX7_acted_35 flX7_16 rfl hM.1 hM.r2 ?_
      refine J_iload_n dX7_acted_38 rfl ?_
      refine J_sipush (141) dX7_acted_39 rfl ?_
      refine J_iadd dX7_acted_42 ?_
      refine J_iaload dX7_acted_43 hM.a2 (by rw [e1]; exact vp_in_nI (n := i + 141) (by omega) (by decide)) ?_
      refine J_iastore dX7_acted_44 hM.a2 (vp_in_nI (n := i) (by omega) (by decide)) ?_
      refine J_iinc (y := 1) dX7_acted_45 rfl rfl ?_
      refine J_goto (tgt := 22) dX7_acted_48 (by decide) ?_
      refine J_eq (ls' := [.ref o, .int x, .int (nI (i + 1))]) (by rw [← nI_1]; rfl) rfl (ih (i + 1) _ (by omega) ?_)
      rw [e1, nI_clamp (n := i) (by omega), nI_clamp (n := i + 141) (by omega), hI1, jrow_eq, jrow_step]
      have h7 : (if i + 141 < i then I (o + 3) (i + 141 + 141) else I (o + 3) (i + 141)) = I (o + 3) (i + 141) := if_neg (by omega)
      rw [h7]
      exact congrArg _ (jcpy (fun k => I (o + 3) (k + 141)) (I (o + 3)) i)
set_option maxHeartbeats 4000000 in
theorem kX7_acted (S : jX) (I : jI) (o : Nat) (x : Int32) (hM : jModel S o) (hs : jStates I o) : jM (1, 0, 0) mX7_acted [.ref o, .int x] S I (jRes (some (.int (fX7_acted I o x).1)) S (fX7_acted I o x).2) := by
  refine jM.of (ls := [.ref o, .int x, .long 0]) (by decide) (Nat.le_of_ble_eq_true rfl) (by intro v hv; simp only [List.mem_cons, List.not_mem_nil, or_false] at hv; rcases hv with rfl | rfl <;> rfl) rfl (fun G hR => ?_)
  refine J_iload_n dX7_acted_0 rfl ?_
  refine J_ldc (-2000000001) dX7_acted_1 jw_760 ?_
  refine J_icmp_gt (tgt := 12) dX7_acted_3 (by decide) (fun h1 => ?_) (fun h1 => ?_)
  · skip
    refine J_aload_n dX7_acted_12 rfl rfl ?_
    refine J_getI dX7_acted_13 flX7_26 rfl hM.1 ?_
    refine J_iconst (4) dX7_acted_16 rfl ?_
    refine J_icmp_ne (tgt := 61) dX7_acted_17 (by decide) (fun h2 => ?_) (fun h2 => ?_)
    · skip
      refine J_iconst (0) dX7_acted_61 rfl ?_
      refine J_istore_n dX7_acted_62 (Nat.le_of_ble_eq_true rfl) ?_
      obtain ⟨st, hst, he⟩ := hs
      have hst4 : st < 4 := by
        by_cases h9 : st = 4
        · subst h9; exact absurd he h2
        · omega
      exact l2X7_acted hM hR (st := st) hst4 he ⟨by rw [fX7_acted, if_pos h1], rfl, by rw [fX7_acted, if_pos h1, jsaved, if_neg h2, he, nI_clamp (by omega)]⟩ 141 0 I (by omega) (jrow_init (fun k => if_neg (by omega)))
    · skip
      refine J_iconst (0) dX7_acted_20 rfl ?_
      refine J_istore_n dX7_acted_21 (Nat.le_of_ble_eq_true rfl) ?_
      exact l1X7_acted hM hR (by rw [h2]; rfl) ⟨by rw [fX7_acted, if_pos h1], rfl, by rw [fX7_acted, if_pos h1, jsaved, if_pos h2]⟩ 423 0 I (by omega) (jrow_init (fun k => if_neg (by omega)))
  · skip
    refine J_aload_n dX7_acted_6 rfl rfl ?_
    refine J_cV0 (mc := mX7_returns) hM.1 (by decide) rfl dX7_acted_7 mlX7_23 okX7_returns (kX7_returns S I o hM) (Nat.le_of_ble_eq_true rfl) (Nat.le_of_ble_eq_true rfl) (Nat.le_of_ble_eq_true rfl) (Nat.le_of_ble_eq_true rfl) ?_
    refine J_iload_n dX7_acted_10 rfl ?_
    exact J_iret (ty := .int) hR dX7_acted_11 rfl rfl (Nat.le_of_ble_eq_true rfl) (Nat.le_of_ble_eq_true rfl) ⟨by rw [fX7_acted, if_neg h1], rfl, by rw [fX7_acted, if_neg h1]⟩
