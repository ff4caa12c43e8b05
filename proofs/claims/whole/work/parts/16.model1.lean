def fX7_in (I : jI) (x : Int32) (y : Int32) (z : Int32) : Int32 :=
  if x < y then
    0
  else
    if z < x then
      0
    else
      1
set_option maxRecDepth 100000 in
set_option maxHeartbeats 4000000 in
theorem kX7_in (S : jX) (I : jI) (x : Int32) (y : Int32) (z : Int32)  : jM (0, 0, 0) mX7_in [.int x, .int y, .int z] S I (jRes (some (.int (fX7_in I x y z))) S I) := by
  refine jM.of (ls := [.int x, .int y, .int z]) (by decide) (Nat.le_of_ble_eq_true rfl) (by intro v hv; simp only [List.mem_cons, List.not_mem_nil, or_false] at hv; rcases hv with rfl | rfl | rfl <;> rfl) rfl (fun G hR => ?_)
  refine J_iload_n dX7_in_0 rfl ?_
  refine J_iload_n dX7_in_1 rfl ?_
  refine J_icmp_lt (tgt := 14) dX7_in_2 (by decide) (fun h1 => ?_) (fun h1 => ?_)
  · skip
    refine J_iconst (0) dX7_in_14 rfl ?_
    exact J_iret (ty := .boolean) hR dX7_in_15 rfl rfl (Nat.le_of_ble_eq_true rfl) (Nat.le_of_ble_eq_true rfl) (jRes_i (by first | (simp only [fX7_in, if_pos h1]; done) | rfl | (simp only [fX7_in, if_pos h1]; rfl)) rfl)
  · skip
    refine J_iload_n dX7_in_5 rfl ?_
    refine J_iload_n dX7_in_6 rfl ?_
    refine J_icmp_gt (tgt := 14) dX7_in_7 (by decide) (fun h2 => ?_) (fun h2 => ?_)
    · skip
      refine J_iconst (0) dX7_in_14 rfl ?_
      exact J_iret (ty := .boolean) hR dX7_in_15 rfl rfl (Nat.le_of_ble_eq_true rfl) (Nat.le_of_ble_eq_true rfl) (jRes_i (by first | (simp only [fX7_in, if_neg h1, if_pos h2]; done) | rfl | (simp only [fX7_in, if_neg h1, if_pos h2]; rfl)) rfl)
    · skip
      refine J_iconst (1) dX7_in_10 rfl ?_
      refine J_goto (tgt := 15) dX7_in_11 (by decide) ?_
      exact J_iret (ty := .boolean) hR dX7_in_15 rfl rfl (Nat.le_of_ble_eq_true rfl) (Nat.le_of_ble_eq_true rfl) (jRes_i (by first | (simp only [fX7_in, if_neg h1, if_neg h2]; done) | rfl | (simp only [fX7_in, if_neg h1, if_neg h2]; rfl)) rfl)
theorem jinBool {I : jI} {x a b : Int32} : fX7_in I x a b = 0 ∨ fX7_in I x a b = 1 := by
  unfold fX7_in
  by_cases h1 : x < a
  · rw [if_pos h1]; exact Or.inl rfl
  · rw [if_neg h1]
    by_cases h2 : b < x
    · rw [if_pos h2]; exact Or.inl rfl
    · rw [if_neg h2]; exact Or.inr rfl
theorem jinT {I : jI} {x a b : Int32} (h : ¬ fX7_in I x a b = 0) : a ≤ x ∧ x ≤ b := by
  unfold fX7_in at h
  by_cases h1 : x < a
  · rw [if_pos h1] at h; exact absurd rfl h
  · rw [if_neg h1] at h
    by_cases h2 : b < x
    · exact absurd (by rw [if_pos h2]) h
    · exact ⟨Int32.not_lt.mp h1, Int32.not_lt.mp h2⟩

def fX7_of (I : jI) (o : Nat) (x : Int32) (y : Int32) : Int32 :=
  (I (o + 1) (((15 + (12 * x)) + y)).toNatClampNeg)
set_option maxRecDepth 100000 in
set_option maxHeartbeats 4000000 in
theorem kX7_of (S : jX) (I : jI) (o : Nat) (x : Int32) (y : Int32) (hM : jModel S o) (hv : vp_in (15 + 12 * x + y) 141) : jM (0, 0, 0) mX7_of [.ref o, .int x, .int y] S I (jRes (some (.int (fX7_of I o x y))) S I) := by
  refine jM.of (ls := [.ref o, .int x, .int y]) (by decide) (Nat.le_of_ble_eq_true rfl) (by intro v hv; simp only [List.mem_cons, List.not_mem_nil, or_false] at hv; rcases hv with rfl | rfl | rfl <;> rfl) rfl (fun G hR => ?_)
  refine J_aload_n dX7_of_0 rfl rfl ?_
  refine J_getR dX7_of_1 flX7_7 rfl hM.1 hM.r0 ?_
  refine J_bipush (15) dX7_of_4 rfl ?_
  refine J_bipush (12) dX7_of_6 rfl ?_
  refine J_iload_n dX7_of_8 rfl ?_
  refine J_imul dX7_of_9 ?_
  refine J_iadd dX7_of_10 ?_
  refine J_iload_n dX7_of_11 rfl ?_
  refine J_iadd dX7_of_12 ?_
  refine J_iaload dX7_of_13 hM.a0 hv ?_
  exact J_iret (ty := .int) hR dX7_of_14 rfl rfl (Nat.le_of_ble_eq_true rfl) (Nat.le_of_ble_eq_true rfl) (jRes_i (by first | (simp only [fX7_of]; done) | rfl | (simp only [fX7_of]; rfl)) rfl)
def fX7_lays (I : jI) (o : Nat) (x : Int32) (y : Int32) (z : Int32) : jI :=
  (jset I (o + 1) (((15 + (12 * x)) + y)).toNatClampNeg z)
set_option maxRecDepth 100000 in
set_option maxHeartbeats 4000000 in
theorem kX7_lays (S : jX) (I : jI) (o : Nat) (x : Int32) (y : Int32) (z : Int32) (hM : jModel S o) (hv : vp_in (15 + 12 * x + y) 141) : jM (0, 0, 0) mX7_lays [.ref o, .int x, .int y, .int z] S I (jRes none S (fX7_lays I o x y z)) := by
  refine jM.of (ls := [.ref o, .int x, .int y, .int z]) (by decide) (Nat.le_of_ble_eq_true rfl) (by intro v hv; simp only [List.mem_cons, List.not_mem_nil, or_false] at hv; rcases hv with rfl | rfl | rfl | rfl <;> rfl) rfl (fun G hR => ?_)
  refine J_aload_n dX7_lays_0 rfl rfl ?_
  refine J_getR dX7_lays_1 flX7_7 rfl hM.1 hM.r0 ?_
  refine J_bipush (15) dX7_lays_4 rfl ?_
  refine J_bipush (12) dX7_lays_6 rfl ?_
  refine J_iload_n dX7_lays_8 rfl ?_
  refine J_imul dX7_lays_9 ?_
  refine J_iadd dX7_lays_10 ?_
  refine J_iload_n dX7_lays_11 rfl ?_
  refine J_iadd dX7_lays_12 ?_
  refine J_iload_n dX7_lays_13 rfl ?_
  refine J_iastore dX7_lays_14 hM.a0 hv ?_
  exact J_vret hR dX7_lays_15 rfl (Nat.le_of_ble_eq_true rfl) (Nat.le_of_ble_eq_true rfl) (jRes_v (by first | (simp only [fX7_lays]; done) | rfl | (simp only [fX7_lays]; rfl)))
def fX7_by (I : jI) (o : Nat) (x : Int32) (y : Int32) : Int32 :=
  (I (o + 1) (((111 + (5 * x)) + y)).toNatClampNeg)
set_option maxRecDepth 100000 in
set_option maxHeartbeats 4000000 in
theorem kX7_by (S : jX) (I : jI) (o : Nat) (x : Int32) (y : Int32) (hM : jModel S o) (hv : vp_in (111 + 5 * x + y) 141) : jM (0, 0, 0) mX7_by [.ref o, .int x, .int y] S I (jRes (some (.int (fX7_by I o x y))) S I) := by
  refine jM.of (ls := [.ref o, .int x, .int y]) (by decide) (Nat.le_of_ble_eq_true rfl) (by intro v hv; simp only [List.mem_cons, List.not_mem_nil, or_false] at hv; rcases hv with rfl | rfl | rfl <;> rfl) rfl (fun G hR => ?_)
  refine J_aload_n dX7_by_0 rfl rfl ?_
  refine J_getR dX7_by_1 flX7_7 rfl hM.1 hM.r0 ?_
  refine J_bipush (111) dX7_by_4 rfl ?_
  refine J_iconst (5) dX7_by_6 rfl ?_
  refine J_iload_n dX7_by_7 rfl ?_
  refine J_imul dX7_by_8 ?_
  refine J_iadd dX7_by_9 ?_
  refine J_iload_n dX7_by_10 rfl ?_
  refine J_iadd dX7_by_11 ?_
  refine J_iaload dX7_by_12 hM.a0 hv ?_
  exact J_iret (ty := .int) hR dX7_by_13 rfl rfl (Nat.le_of_ble_eq_true rfl) (Nat.le_of_ble_eq_true rfl) (jRes_i (by first | (simp only [fX7_by]; done) | rfl | (simp only [fX7_by]; rfl)) rfl)
def fX7_counts (I : jI) (o : Nat) (x : Int32) (y : Int32) : jI :=
  (jset I (o + 1) (((111 + (5 * x)) + y)).toNatClampNeg ((I (o + 1) (((111 + (5 * x)) + y)).toNatClampNeg) + 1))
set_option maxRecDepth 100000 in
set_option maxHeartbeats 4000000 in
theorem kX7_counts (S : jX) (I : jI) (o : Nat) (x : Int32) (y : Int32) (hM : jModel S o) (hv : vp_in (111 + 5 * x + y) 141) : jM (0, 0, 0) mX7_counts [.ref o, .int x, .int y] S I (jRes none S (fX7_counts I o x y)) := by
  refine jM.of (ls := [.ref o, .int x, .int y]) (by decide) (Nat.le_of_ble_eq_true rfl) (by intro v hv; simp only [List.mem_cons, List.not_mem_nil, or_false] at hv; rcases hv with rfl | rfl | rfl <;> rfl) rfl (fun G hR => ?_)
  refine J_aload_n dX7_counts_0 rfl rfl ?_
  refine J_getR dX7_counts_1 flX7_7 rfl hM.1 hM.r0 ?_
  refine J_bipush (111) dX7_counts_4 rfl ?_
  refine J_iconst (5) dX7_counts_6 rfl ?_
  refine J_iload_n dX7_counts_7 rfl ?_
  refine J_imul dX7_counts_8 ?_
  refine J_iadd dX7_counts_9 ?_
  refine J_iload_n dX7_counts_10 rfl ?_
  refine J_iadd dX7_counts_11 ?_
  refine J_dup2 dX7_counts_12 rfl rfl ?_
  refine J_iaload dX7_counts_13 hM.a0 hv ?_
  refine J_iconst (1) dX7_counts_14 rfl ?_
  refine J_iadd dX7_counts_15 ?_
  refine J_iastore dX7_counts_16 hM.a0 hv ?_
  exact J_vret hR dX7_counts_17 rfl (Nat.le_of_ble_eq_true rfl) (Nat.le_of_ble_eq_true rfl) (jRes_v (by first | (simp only [fX7_counts]; done) | rfl | (simp only [fX7_counts]; rfl)))
def fX7_isBoiler (I : jI) (o : Nat) (x : Int32) : Int32 :=
  (fX7_in I x 0 ((I (o + 1) ((0 : Int32).toNatClampNeg)) - 1))
set_option maxRecDepth 100000 in
set_option maxHeartbeats 4000000 in
theorem kX7_isBoiler (S : jX) (I : jI) (o : Nat) (x : Int32) (hM : jModel S o) : jM (1, 0, 0) mX7_isBoiler [.ref o, .int x] S I (jRes (some (.int (fX7_isBoiler I o x))) S I) := by
  refine jM.of (ls := [.ref o, .int x]) (by decide) (Nat.le_of_ble_eq_true rfl) (by intro v hv; simp only [List.mem_cons, List.not_mem_nil, or_false] at hv; rcases hv with rfl | rfl <;> rfl) rfl (fun G hR => ?_)
  refine J_iload_n dX7_isBoiler_0 rfl ?_
  refine J_iconst (0) dX7_isBoiler_1 rfl ?_
  refine J_aload_n dX7_isBoiler_2 rfl rfl ?_
  refine J_getR dX7_isBoiler_3 flX7_7 rfl hM.1 hM.r0 ?_
  refine J_iconst (0) dX7_isBoiler_6 rfl ?_
  refine J_iaload dX7_isBoiler_7 hM.a0 (by unfold vp_in; decide) ?_
  refine J_iconst (1) dX7_isBoiler_8 rfl ?_
  refine J_isub dX7_isBoiler_9 ?_
  refine J_cS3r (mc := mX7_in) dX7_isBoiler_10 mlX7_30 okX7_in (kX7_in S I x 0 ((I (o + 1) ((0 : Int32).toNatClampNeg)) - 1) ) (Nat.le_of_ble_eq_true rfl) (Nat.le_of_ble_eq_true rfl) (Nat.le_of_ble_eq_true rfl) (Nat.le_of_ble_eq_true rfl) ?_
  exact J_iret (ty := .boolean) hR dX7_isBoiler_13 rfl (jBn jinBool) (Nat.le_of_ble_eq_true rfl) (Nat.le_of_ble_eq_true rfl) (jRes_i (by first | (simp only [fX7_isBoiler]; done) | rfl | (simp only [fX7_isBoiler]; rfl)) rfl)
def fX7_isInspector (I : jI) (o : Nat) (x : Int32) : Int32 :=
  (fX7_in I x 0 ((I (o + 1) ((1 : Int32).toNatClampNeg)) - 1))
set_option maxRecDepth 100000 in
set_option maxHeartbeats 4000000 in
theorem kX7_isInspector (S : jX) (I : jI) (o : Nat) (x : Int32) (hM : jModel S o) : jM (1, 0, 0) mX7_isInspector [.ref o, .int x] S I (jRes (some (.int (fX7_isInspector I o x))) S I) := by
  refine jM.of (ls := [.ref o, .int x]) (by decide) (Nat.le_of_ble_eq_true rfl) (by intro v hv; simp only [List.mem_cons, List.not_mem_nil, or_false] at hv; rcases hv with rfl | rfl <;> rfl) rfl (fun G hR => ?_)
  refine J_iload_n dX7_isInspector_0 rfl ?_
  refine J_iconst (0) dX7_isInspector_1 rfl ?_
  refine J_aload_n dX7_isInspector_2 rfl rfl ?_
  refine J_getR dX7_isInspector_3 flX7_7 rfl hM.1 hM.r0 ?_
  refine J_iconst (1) dX7_isInspector_6 rfl ?_
  refine J_iaload dX7_isInspector_7 hM.a0 (by unfold vp_in; decide) ?_
  refine J_iconst (1) dX7_isInspector_8 rfl ?_
  refine J_isub dX7_isInspector_9 ?_
  refine J_cS3r (mc := mX7_in) dX7_isInspector_10 mlX7_30 okX7_in (kX7_in S I x 0 ((I (o + 1) ((1 : Int32).toNatClampNeg)) - 1) ) (Nat.le_of_ble_eq_true rfl) (Nat.le_of_ble_eq_true rfl) (Nat.le_of_ble_eq_true rfl) (Nat.le_of_ble_eq_true rfl) ?_
  exact J_iret (ty := .boolean) hR dX7_isInspector_13 rfl (jBn jinBool) (Nat.le_of_ble_eq_true rfl) (Nat.le_of_ble_eq_true rfl) (jRes_i (by first | (simp only [fX7_isInspector]; done) | rfl | (simp only [fX7_isInspector]; rfl)) rfl)
theorem jisB {I : jI} {o : Nat} {x : Int32} (hI : jMInv I o) (h : ¬ fX7_isBoiler I o x = 0) : jB8 x := by
  obtain ⟨⟨n, hn, e⟩, -, -⟩ := hI
  obtain ⟨h1, h2⟩ := jinT h
  have e' : I (o + 1) ((0 : Int32).toNatClampNeg) = nI n := e
  rw [e'] at h2
  obtain ⟨j, hj, rfl⟩ := nI_of (Int32.not_lt.mpr h1)
  refine ⟨j, ?_, rfl⟩
  cases n with
  | zero => exact absurd h2 (by intro h2; exact absurd (Int32.le_trans h1 h2) (by decide))
  | succ n =>
    have e3 : nI (n + 1) - 1 = nI n := nI_pred n
    rw [e3, nI_leI hj (by omega)] at h2
    omega
theorem jisI {I : jI} {o : Nat} {x : Int32} (hI : jMInv I o) (h : ¬ fX7_isInspector I o x = 0) : jB6 x := by
  obtain ⟨-, ⟨n, hn, e⟩, -⟩ := hI
  obtain ⟨h1, h2⟩ := jinT h
  have e' : I (o + 1) ((1 : Int32).toNatClampNeg) = nI n := e
  rw [e'] at h2
  obtain ⟨j, hj, rfl⟩ := nI_of (Int32.not_lt.mpr h1)
  refine ⟨j, ?_, rfl⟩
  cases n with
  | zero => exact absurd h2 (by intro h2; exact absurd (Int32.le_trans h1 h2) (by decide))
  | succ n =>
    have e3 : nI (n + 1) - 1 = nI n := nI_pred n
    rw [e3, nI_leI hj (by omega)] at h2
    omega
theorem jits {I : jI} {o : Nat} {x : Int32} (hI : jMInv I o) (hx : jB6 x) : jB2 (fX7_by I o x 0) := by
  obtain ⟨i, hi, rfl⟩ := hx
  have e : (111 + 5 * nI i + (0 : Int32)).toNatClampNeg = 111 + 5 * i := jlin_n 111 5 i 0 141 (by omega) (by decide)
  unfold fX7_by
  rw [e]
  exact hI.2.2 i hi
theorem jcomesB {I : jI} {o : Nat} (hI : jMInv I o) (h : ¬ (I (o + 1) ((0 : Int32).toNatClampNeg)) = 8) : jB8 (I (o + 1) ((0 : Int32).toNatClampNeg)) := by
  obtain ⟨⟨n, hn, e⟩, -, -⟩ := hI
  have e' : I (o + 1) ((0 : Int32).toNatClampNeg) = nI n := e
  rw [e'] at h ⊢
  refine ⟨n, ?_, rfl⟩
  by_cases h8 : n = 8
  · subst h8; exact absurd rfl h
  · omega

def fX7_strength (I : jI) (o : Nat) (x : Int32) : Int32 :=
  (((fX7_of I o x 0) * (200 - (fX7_of I o x 2))) / 200)
set_option maxRecDepth 100000 in
set_option maxHeartbeats 4000000 in
theorem kX7_strength (S : jX) (I : jI) (o : Nat) (x : Int32) (hM : jModel S o) (hb : jB8 x) : jM (1, 0, 0) mX7_strength [.ref o, .int x] S I (jRes (some (.int (fX7_strength I o x))) S I) := by
  refine jM.of (ls := [.ref o, .int x]) (by decide) (Nat.le_of_ble_eq_true rfl) (by intro v hv; simp only [List.mem_cons, List.not_mem_nil, or_false] at hv; rcases hv with rfl | rfl <;> rfl) rfl (fun G hR => ?_)
  refine J_aload_n dX7_strength_0 rfl rfl ?_
  refine J_iload_n dX7_strength_1 rfl ?_
  refine J_iconst (0) dX7_strength_2 rfl ?_
  refine J_cV2r (mc := mX7_of) hM.1 (by decide) rfl dX7_strength_3 mlX7_34 okX7_of (kX7_of S I o x 0 hM (jofv hb (k := 0) rfl (by decide))) (Nat.le_of_ble_eq_true rfl) (Nat.le_of_ble_eq_true rfl) (Nat.le_of_ble_eq_true rfl) (Nat.le_of_ble_eq_true rfl) ?_
  refine J_sipush (200) dX7_strength_6 rfl ?_
  refine J_aload_n dX7_strength_9 rfl rfl ?_
  refine J_iload_n dX7_strength_10 rfl ?_
  refine J_iconst (2) dX7_strength_11 rfl ?_
  refine J_cV2r (mc := mX7_of) hM.1 (by decide) rfl dX7_strength_12 mlX7_34 okX7_of (kX7_of S I o x 2 hM (jofv hb (k := 2) rfl (by decide))) (Nat.le_of_ble_eq_true rfl) (Nat.le_of_ble_eq_true rfl) (Nat.le_of_ble_eq_true rfl) (Nat.le_of_ble_eq_true rfl) ?_
  refine J_isub dX7_strength_15 ?_
  refine J_imul dX7_strength_16 ?_
  refine J_sipush (200) dX7_strength_17 rfl ?_
  refine J_idiv dX7_strength_20 (by decide) ?_
  exact J_iret (ty := .int) hR dX7_strength_21 rfl rfl (Nat.le_of_ble_eq_true rfl) (Nat.le_of_ble_eq_true rfl) (jRes_i (by first | (simp only [fX7_strength]; done) | rfl | (simp only [fX7_strength]; rfl)) rfl)
def fX7_pressureBy (I : jI) (o : Nat) (x : Int32) (y : Int32) : Int32 :=
  if y = 0 then
    if (I (o + 1) ((7 + y)).toNatClampNeg) < (fX7_of I o x 2) then
      0
    else
      if 1 ≤ (fX7_strength I o x) then
        (fX7_strength I o x)
      else
        0
  else
    if (I (o + 1) ((7 + y)).toNatClampNeg) < (fX7_of I o x 2) then
      0
    else
      if 1 ≤ (((fX7_strength I o x) * 9) / 10) then
        (((fX7_strength I o x) * 9) / 10)
      else
        0
set_option maxRecDepth 100000 in
set_option maxHeartbeats 4000000 in
theorem kX7_pressureBy (S : jX) (I : jI) (o : Nat) (x : Int32) (y : Int32) (hM : jModel S o) (hb : jB8 x) (h7 : vp_in (7 + y) 141) : jM (2, 0, 0) mX7_pressureBy [.ref o, .int x, .int y] S I (jRes (some (.int (fX7_pressureBy I o x y))) S I) := by
  refine jM.of (ls := [.ref o, .int x, .int y, .long 0]) (by decide) (Nat.le_of_ble_eq_true rfl) (by intro v hv; simp only [List.mem_cons, List.not_mem_nil, or_false] at hv; rcases hv with rfl | rfl | rfl <;> rfl) rfl (fun G hR => ?_)
  refine J_iload_n dX7_pressureBy_0 rfl ?_
  refine J_if_ne (tgt := 12) dX7_pressureBy_1 (by decide) (fun h1 => ?_) (fun h1 => ?_)
  · skip
    refine J_aload_n dX7_pressureBy_12 rfl rfl ?_
    refine J_iload_n dX7_pressureBy_13 rfl ?_
    refine J_cV1r (mc := mX7_strength) hM.1 (by decide) rfl dX7_pressureBy_14 mlX7_38 okX7_strength (kX7_strength S I o x hM hb) (Nat.le_of_ble_eq_true rfl) (Nat.le_of_ble_eq_true rfl) (Nat.le_of_ble_eq_true rfl) (Nat.le_of_ble_eq_true rfl) ?_
    refine J_bipush (9) dX7_pressureBy_17 rfl ?_
    refine J_imul dX7_pressureBy_19 ?_
    refine J_bipush (10) dX7_pressureBy_20 rfl ?_
    refine J_idiv dX7_pressureBy_22 (by decide) ?_
    refine J_istore_n dX7_pressureBy_23 (Nat.le_of_ble_eq_true rfl) ?_
    refine J_aload_n dX7_pressureBy_24 rfl rfl ?_
    refine J_iload_n dX7_pressureBy_25 rfl ?_
    refine J_iconst (2) dX7_pressureBy_26 rfl ?_
    refine J_cV2r (mc := mX7_of) hM.1 (by decide) rfl dX7_pressureBy_27 mlX7_34 okX7_of (kX7_of S I o x 2 hM (jofv hb (k := 2) rfl (by decide))) (Nat.le_of_ble_eq_true rfl) (Nat.le_of_ble_eq_true rfl) (Nat.le_of_ble_eq_true rfl) (Nat.le_of_ble_eq_true rfl) ?_
    refine J_aload_n dX7_pressureBy_30 rfl rfl ?_
    refine J_getR dX7_pressureBy_31 flX7_7 rfl hM.1 hM.r0 ?_
    refine J_bipush (7) dX7_pressureBy_34 rfl ?_
    refine J_iload_n dX7_pressureBy_36 rfl ?_
    refine J_iadd dX7_pressureBy_37 ?_
    refine J_iaload dX7_pressureBy_38 hM.a0 h7 ?_
    refine J_icmp_gt (tgt := 47) dX7_pressureBy_39 (by decide) (fun h2 => ?_) (fun h2 => ?_)
    · skip
      refine J_iconst (0) dX7_pressureBy_47 rfl ?_
      refine J_goto (tgt := 52) dX7_pressureBy_48 (by decide) ?_
      exact J_iret (ty := .int) hR dX7_pressureBy_52 rfl rfl (Nat.le_of_ble_eq_true rfl) (Nat.le_of_ble_eq_true rfl) (jRes_i (by first | (simp only [fX7_pressureBy, if_neg h1, if_pos h2]; done) | rfl | (simp only [fX7_pressureBy, if_neg h1, if_pos h2]; rfl)) rfl)
    · skip
      refine J_iload_n dX7_pressureBy_42 rfl ?_
      refine J_iconst (1) dX7_pressureBy_43 rfl ?_
      refine J_icmp_ge (tgt := 51) dX7_pressureBy_44 (by decide) (fun h3 => ?_) (fun h3 => ?_)
      · skip
        refine J_iload_n dX7_pressureBy_51 rfl ?_
        exact J_iret (ty := .int) hR dX7_pressureBy_52 rfl rfl (Nat.le_of_ble_eq_true rfl) (Nat.le_of_ble_eq_true rfl) (jRes_i (by first | (simp only [fX7_pressureBy, if_neg h1, if_neg h2, if_pos h3]; done) | rfl | (simp only [fX7_pressureBy, if_neg h1, if_neg h2, if_pos h3]; rfl)) rfl)
      · skip
        refine J_iconst (0) dX7_pressureBy_47 rfl ?_
        refine J_goto (tgt := 52) dX7_pressureBy_48 (by decide) ?_
        exact J_iret (ty := .int) hR dX7_pressureBy_52 rfl rfl (Nat.le_of_ble_eq_true rfl) (Nat.le_of_ble_eq_true rfl) (jRes_i (by first | (simp only [fX7_pressureBy, if_neg h1, if_neg h2, if_neg h3]; done) | rfl | (simp only [fX7_pressureBy, if_neg h1, if_neg h2, if_neg h3]; rfl)) rfl)
  · skip
    refine J_aload_n dX7_pressureBy_4 rfl rfl ?_
    refine J_iload_n dX7_pressureBy_5 rfl ?_
    refine J_cV1r (mc := mX7_strength) hM.1 (by decide) rfl dX7_pressureBy_6 mlX7_38 okX7_strength (kX7_strength S I o x hM hb) (Nat.le_of_ble_eq_true rfl) (Nat.le_of_ble_eq_true rfl) (Nat.le_of_ble_eq_true rfl) (Nat.le_of_ble_eq_true rfl) ?_
    refine J_goto (tgt := 23) dX7_pressureBy_9 (by decide) ?_
    refine J_istore_n dX7_pressureBy_23 (Nat.le_of_ble_eq_true rfl) ?_
    refine J_aload_n dX7_pressureBy_24 rfl rfl ?_
    refine J_iload_n dX7_pressureBy_25 rfl ?_
    refine J_iconst (2) dX7_pressureBy_26 rfl ?_
    refine J_cV2r (mc := mX7_of) hM.1 (by decide) rfl dX7_pressureBy_27 mlX7_34 okX7_of (kX7_of S I o x 2 hM (jofv hb (k := 2) rfl (by decide))) (Nat.le_of_ble_eq_true rfl) (Nat.le_of_ble_eq_true rfl) (Nat.le_of_ble_eq_true rfl) (Nat.le_of_ble_eq_true rfl) ?_
    refine J_aload_n dX7_pressureBy_30 rfl rfl ?_
    refine J_getR dX7_pressureBy_31 flX7_7 rfl hM.1 hM.r0 ?_
    refine J_bipush (7) dX7_pressureBy_34 rfl ?_
    refine J_iload_n dX7_pressureBy_36 rfl ?_
    refine J_iadd dX7_pressureBy_37 ?_
    refine J_iaload dX7_pressureBy_38 hM.a0 h7 ?_
    refine J_icmp_gt (tgt := 47) dX7_pressureBy_39 (by decide) (fun h4 => ?_) (fun h4 => ?_)
    · skip
      refine J_iconst (0) dX7_pressureBy_47 rfl ?_
      refine J_goto (tgt := 52) dX7_pressureBy_48 (by decide) ?_
      exact J_iret (ty := .int) hR dX7_pressureBy_52 rfl rfl (Nat.le_of_ble_eq_true rfl) (Nat.le_of_ble_eq_true rfl) (jRes_i (by first | (simp only [fX7_pressureBy, if_pos h1, if_pos h4]; done) | rfl | (simp only [fX7_pressureBy, if_pos h1, if_pos h4]; rfl)) rfl)
    · skip
      refine J_iload_n dX7_pressureBy_42 rfl ?_
      refine J_iconst (1) dX7_pressureBy_43 rfl ?_
      refine J_icmp_ge (tgt := 51) dX7_pressureBy_44 (by decide) (fun h5 => ?_) (fun h5 => ?_)
      · skip
        refine J_iload_n dX7_pressureBy_51 rfl ?_
        exact J_iret (ty := .int) hR dX7_pressureBy_52 rfl rfl (Nat.le_of_ble_eq_true rfl) (Nat.le_of_ble_eq_true rfl) (jRes_i (by first | (simp only [fX7_pressureBy, if_pos h1, if_neg h4, if_pos h5]; done) | rfl | (simp only [fX7_pressureBy, if_pos h1, if_neg h4, if_pos h5]; rfl)) rfl)
      · skip
        refine J_iconst (0) dX7_pressureBy_47 rfl ?_
        refine J_goto (tgt := 52) dX7_pressureBy_48 (by decide) ?_
        exact J_iret (ty := .int) hR dX7_pressureBy_52 rfl rfl (Nat.le_of_ble_eq_true rfl) (Nat.le_of_ble_eq_true rfl) (jRes_i (by first | (simp only [fX7_pressureBy, if_pos h1, if_neg h4, if_neg h5]; done) | rfl | (simp only [fX7_pressureBy, if_pos h1, if_neg h4, if_neg h5]; rfl)) rfl)
def fX7_lastBy (I : jI) (o : Nat) (x : Int32) (y : Int32) : Int32 :=
  if y = 0 then
    ((I (o + 1) ((2 : Int32).toNatClampNeg)) + (52 - ((fX7_of I o x 2) / 5)))
  else
    ((I (o + 1) ((2 : Int32).toNatClampNeg)) + 40)
set_option maxRecDepth 100000 in
set_option maxHeartbeats 4000000 in
theorem kX7_lastBy (S : jX) (I : jI) (o : Nat) (x : Int32) (y : Int32) (hM : jModel S o) (hb : jB8 x) : jM (1, 0, 0) mX7_lastBy [.ref o, .int x, .int y] S I (jRes (some (.int (fX7_lastBy I o x y))) S I) := by
  refine jM.of (ls := [.ref o, .int x, .int y]) (by decide) (Nat.le_of_ble_eq_true rfl) (by intro v hv; simp only [List.mem_cons, List.not_mem_nil, or_false] at hv; rcases hv with rfl | rfl | rfl <;> rfl) rfl (fun G hR => ?_)
  refine J_aload_n dX7_lastBy_0 rfl rfl ?_
  refine J_getR dX7_lastBy_1 flX7_7 rfl hM.1 hM.r0 ?_
  refine J_iconst (2) dX7_lastBy_4 rfl ?_
  refine J_iaload dX7_lastBy_5 hM.a0 (by unfold vp_in; decide) ?_
  refine J_iload_n dX7_lastBy_6 rfl ?_
  refine J_if_ne (tgt := 24) dX7_lastBy_7 (by decide) (fun h1 => ?_) (fun h1 => ?_)
  · skip
    refine J_bipush (40) dX7_lastBy_24 rfl ?_
    refine J_iadd dX7_lastBy_26 ?_
    exact J_iret (ty := .int) hR dX7_lastBy_27 rfl rfl (Nat.le_of_ble_eq_true rfl) (Nat.le_of_ble_eq_true rfl) (jRes_i (by first | (simp only [fX7_lastBy, if_neg h1]; done) | rfl | (simp only [fX7_lastBy, if_neg h1]; rfl)) rfl)
  · skip
    refine J_bipush (52) dX7_lastBy_10 rfl ?_
    refine J_aload_n dX7_lastBy_12 rfl rfl ?_
    refine J_iload_n dX7_lastBy_13 rfl ?_
    refine J_iconst (2) dX7_lastBy_14 rfl ?_
    refine J_cV2r (mc := mX7_of) hM.1 (by decide) rfl dX7_lastBy_15 mlX7_34 okX7_of (kX7_of S I o x 2 hM (jofv hb (k := 2) rfl (by decide))) (Nat.le_of_ble_eq_true rfl) (Nat.le_of_ble_eq_true rfl) (Nat.le_of_ble_eq_true rfl) (Nat.le_of_ble_eq_true rfl) ?_
    refine J_iconst (5) dX7_lastBy_18 rfl ?_
    refine J_idiv dX7_lastBy_19 (by decide) ?_
    refine J_isub dX7_lastBy_20 ?_
    refine J_goto (tgt := 26) dX7_lastBy_21 (by decide) ?_
    refine J_iadd dX7_lastBy_26 ?_
    exact J_iret (ty := .int) hR dX7_lastBy_27 rfl rfl (Nat.le_of_ble_eq_true rfl) (Nat.le_of_ble_eq_true rfl) (jRes_i (by first | (simp only [fX7_lastBy, if_pos h1]; done) | rfl | (simp only [fX7_lastBy, if_pos h1]; rfl)) rfl)
def fX7_hasPaper (I : jI) (o : Nat) (x : Int32) : Int32 :=
  if (fX7_of I o x 9) < 0 then
    0
  else
    1
set_option maxRecDepth 100000 in
set_option maxHeartbeats 4000000 in
theorem kX7_hasPaper (S : jX) (I : jI) (o : Nat) (x : Int32) (hM : jModel S o) (hb : jB8 x) : jM (1, 0, 0) mX7_hasPaper [.ref o, .int x] S I (jRes (some (.int (fX7_hasPaper I o x))) S I) := by
  refine jM.of (ls := [.ref o, .int x]) (by decide) (Nat.le_of_ble_eq_true rfl) (by intro v hv; simp only [List.mem_cons, List.not_mem_nil, or_false] at hv; rcases hv with rfl | rfl <;> rfl) rfl (fun G hR => ?_)
  refine J_aload_n dX7_hasPaper_0 rfl rfl ?_
  refine J_iload_n dX7_hasPaper_1 rfl ?_
  refine J_bipush (9) dX7_hasPaper_2 rfl ?_
  refine J_cV2r (mc := mX7_of) hM.1 (by decide) rfl dX7_hasPaper_4 mlX7_34 okX7_of (kX7_of S I o x 9 hM (jofv hb (k := 9) rfl (by decide))) (Nat.le_of_ble_eq_true rfl) (Nat.le_of_ble_eq_true rfl) (Nat.le_of_ble_eq_true rfl) (Nat.le_of_ble_eq_true rfl) ?_
  refine J_if_lt (tgt := 14) dX7_hasPaper_7 (by decide) (fun h1 => ?_) (fun h1 => ?_)
  · skip
    refine J_iconst (0) dX7_hasPaper_14 rfl ?_
    exact J_iret (ty := .boolean) hR dX7_hasPaper_15 rfl rfl (Nat.le_of_ble_eq_true rfl) (Nat.le_of_ble_eq_true rfl) (jRes_i (by first | (simp only [fX7_hasPaper, if_pos h1]; done) | rfl | (simp only [fX7_hasPaper, if_pos h1]; rfl)) rfl)
  · skip
    refine J_iconst (1) dX7_hasPaper_10 rfl ?_
    refine J_goto (tgt := 15) dX7_hasPaper_11 (by decide) ?_
    exact J_iret (ty := .boolean) hR dX7_hasPaper_15 rfl rfl (Nat.le_of_ble_eq_true rfl) (Nat.le_of_ble_eq_true rfl) (jRes_i (by first | (simp only [fX7_hasPaper, if_neg h1]; done) | rfl | (simp only [fX7_hasPaper, if_neg h1]; rfl)) rfl)
def fX7_isShut (I : jI) (o : Nat) (x : Int32) : Int32 :=
  if (fX7_of I o x 7) < 0 then
    0
  else
    if (fX7_in I (I (o + 1) ((2 : Int32).toNatClampNeg)) (fX7_of I o x 7) (fX7_of I o x 8)) = 0 then
      0
    else
      1
set_option maxRecDepth 100000 in
set_option maxHeartbeats 4000000 in
theorem kX7_isShut (S : jX) (I : jI) (o : Nat) (x : Int32) (hM : jModel S o) (hb : jB8 x) : jM (1, 0, 0) mX7_isShut [.ref o, .int x] S I (jRes (some (.int (fX7_isShut I o x))) S I) := by
  refine jM.of (ls := [.ref o, .int x]) (by decide) (Nat.le_of_ble_eq_true rfl) (by intro v hv; simp only [List.mem_cons, List.not_mem_nil, or_false] at hv; rcases hv with rfl | rfl <;> rfl) rfl (fun G hR => ?_)
  refine J_aload_n dX7_isShut_0 rfl rfl ?_
  refine J_iload_n dX7_isShut_1 rfl ?_
  refine J_bipush (7) dX7_isShut_2 rfl ?_
  refine J_cV2r (mc := mX7_of) hM.1 (by decide) rfl dX7_isShut_4 mlX7_34 okX7_of (kX7_of S I o x 7 hM (jofv hb (k := 7) rfl (by decide))) (Nat.le_of_ble_eq_true rfl) (Nat.le_of_ble_eq_true rfl) (Nat.le_of_ble_eq_true rfl) (Nat.le_of_ble_eq_true rfl) ?_
  refine J_if_lt (tgt := 40) dX7_isShut_7 (by decide) (fun h1 => ?_) (fun h1 => ?_)
  · skip
    refine J_iconst (0) dX7_isShut_40 rfl ?_
    exact J_iret (ty := .boolean) hR dX7_isShut_41 rfl rfl (Nat.le_of_ble_eq_true rfl) (Nat.le_of_ble_eq_true rfl) (jRes_i (by first | (simp only [fX7_isShut, if_pos h1]; done) | rfl | (simp only [fX7_isShut, if_pos h1]; rfl)) rfl)
  · skip
    refine J_aload_n dX7_isShut_10 rfl rfl ?_
    refine J_getR dX7_isShut_11 flX7_7 rfl hM.1 hM.r0 ?_
    refine J_iconst (2) dX7_isShut_14 rfl ?_
    refine J_iaload dX7_isShut_15 hM.a0 (by unfold vp_in; decide) ?_
    refine J_aload_n dX7_isShut_16 rfl rfl ?_
    refine J_iload_n dX7_isShut_17 rfl ?_
    refine J_bipush (7) dX7_isShut_18 rfl ?_
    refine J_cV2r (mc := mX7_of) hM.1 (by decide) rfl dX7_isShut_20 mlX7_34 okX7_of (kX7_of S I o x 7 hM (jofv hb (k := 7) rfl (by decide))) (Nat.le_of_ble_eq_true rfl) (Nat.le_of_ble_eq_true rfl) (Nat.le_of_ble_eq_true rfl) (Nat.le_of_ble_eq_true rfl) ?_
    refine J_aload_n dX7_isShut_23 rfl rfl ?_
    refine J_iload_n dX7_isShut_24 rfl ?_
    refine J_bipush (8) dX7_isShut_25 rfl ?_
    refine J_cV2r (mc := mX7_of) hM.1 (by decide) rfl dX7_isShut_27 mlX7_34 okX7_of (kX7_of S I o x 8 hM (jofv hb (k := 8) rfl (by decide))) (Nat.le_of_ble_eq_true rfl) (Nat.le_of_ble_eq_true rfl) (Nat.le_of_ble_eq_true rfl) (Nat.le_of_ble_eq_true rfl) ?_
    refine J_cS3r (mc := mX7_in) dX7_isShut_30 mlX7_30 okX7_in (kX7_in S I (I (o + 1) ((2 : Int32).toNatClampNeg)) (fX7_of I o x 7) (fX7_of I o x 8) ) (Nat.le_of_ble_eq_true rfl) (Nat.le_of_ble_eq_true rfl) (Nat.le_of_ble_eq_true rfl) (Nat.le_of_ble_eq_true rfl) ?_
    refine J_if_eq (tgt := 40) dX7_isShut_33 (by decide) (fun h2 => ?_) (fun h2 => ?_)
    · skip
      refine J_iconst (0) dX7_isShut_40 rfl ?_
      exact J_iret (ty := .boolean) hR dX7_isShut_41 rfl rfl (Nat.le_of_ble_eq_true rfl) (Nat.le_of_ble_eq_true rfl) (jRes_i (by first | (simp only [fX7_isShut, if_neg h1, if_pos h2]; done) | rfl | (simp only [fX7_isShut, if_neg h1, if_pos h2]; rfl)) rfl)
    · skip
      refine J_iconst (1) dX7_isShut_36 rfl ?_
      refine J_goto (tgt := 41) dX7_isShut_37 (by decide) ?_
      exact J_iret (ty := .boolean) hR dX7_isShut_41 rfl rfl (Nat.le_of_ble_eq_true rfl) (Nat.le_of_ble_eq_true rfl) (jRes_i (by first | (simp only [fX7_isShut, if_neg h1, if_neg h2]; done) | rfl | (simp only [fX7_isShut, if_neg h1, if_neg h2]; rfl)) rfl)
def fX7_whyNotFired (I : jI) (o : Nat) (x : Int32) : Int32 :=
  if (fX7_of I o x 3) = 0 then
    if (fX7_of I o x 6) = 1 then
      3
    else
      if (fX7_isShut I o x) = 0 then
        if (fX7_hasPaper I o x) = 0 then
          5
        else
          if (fX7_of I o x 1) ≤ (fX7_of I o x 10) then
            0
          else
            6
      else
        4
  else
    if (fX7_of I o x 3) = 2 then
      1
    else
      2
set_option maxRecDepth 100000 in
set_option maxHeartbeats 4000000 in
theorem kX7_whyNotFired (S : jX) (I : jI) (o : Nat) (x : Int32) (hM : jModel S o) (hb : jB8 x) : jM (2, 0, 0) mX7_whyNotFired [.ref o, .int x] S I (jRes (some (.int (fX7_whyNotFired I o x))) S I) := by
  refine jM.of (ls := [.ref o, .int x]) (by decide) (Nat.le_of_ble_eq_true rfl) (by intro v hv; simp only [List.mem_cons, List.not_mem_nil, or_false] at hv; rcases hv with rfl | rfl <;> rfl) rfl (fun G hR => ?_)
  refine J_aload_n dX7_whyNotFired_0 rfl rfl ?_
  refine J_iload_n dX7_whyNotFired_1 rfl ?_
  refine J_iconst (3) dX7_whyNotFired_2 rfl ?_
  refine J_cV2r (mc := mX7_of) hM.1 (by decide) rfl dX7_whyNotFired_3 mlX7_34 okX7_of (kX7_of S I o x 3 hM (jofv hb (k := 3) rfl (by decide))) (Nat.le_of_ble_eq_true rfl) (Nat.le_of_ble_eq_true rfl) (Nat.le_of_ble_eq_true rfl) (Nat.le_of_ble_eq_true rfl) ?_
  refine J_if_eq (tgt := 25) dX7_whyNotFired_6 (by decide) (fun h1 => ?_) (fun h1 => ?_)
  · skip
    refine J_aload_n dX7_whyNotFired_25 rfl rfl ?_
    refine J_iload_n dX7_whyNotFired_26 rfl ?_
    refine J_bipush (6) dX7_whyNotFired_27 rfl ?_
    refine J_cV2r (mc := mX7_of) hM.1 (by decide) rfl dX7_whyNotFired_29 mlX7_34 okX7_of (kX7_of S I o x 6 hM (jofv hb (k := 6) rfl (by decide))) (Nat.le_of_ble_eq_true rfl) (Nat.le_of_ble_eq_true rfl) (Nat.le_of_ble_eq_true rfl) (Nat.le_of_ble_eq_true rfl) ?_
    refine J_iconst (1) dX7_whyNotFired_32 rfl ?_
    refine J_icmp_ne (tgt := 38) dX7_whyNotFired_33 (by decide) (fun h2 => ?_) (fun h2 => ?_)
    · skip
      refine J_aload_n dX7_whyNotFired_38 rfl rfl ?_
      refine J_iload_n dX7_whyNotFired_39 rfl ?_
      refine J_cV1r (mc := mX7_isShut) hM.1 (by decide) rfl dX7_whyNotFired_40 mlX7_42 okX7_isShut (kX7_isShut S I o x hM hb) (Nat.le_of_ble_eq_true rfl) (Nat.le_of_ble_eq_true rfl) (Nat.le_of_ble_eq_true rfl) (Nat.le_of_ble_eq_true rfl) ?_
      refine J_if_eq (tgt := 50) dX7_whyNotFired_43 (by decide) (fun h3 => ?_) (fun h3 => ?_)
      · skip
        refine J_aload_n dX7_whyNotFired_50 rfl rfl ?_
        refine J_iload_n dX7_whyNotFired_51 rfl ?_
        refine J_cV1r (mc := mX7_hasPaper) hM.1 (by decide) rfl dX7_whyNotFired_52 mlX7_46 okX7_hasPaper (kX7_hasPaper S I o x hM hb) (Nat.le_of_ble_eq_true rfl) (Nat.le_of_ble_eq_true rfl) (Nat.le_of_ble_eq_true rfl) (Nat.le_of_ble_eq_true rfl) ?_
        refine J_if_ne (tgt := 62) dX7_whyNotFired_55 (by decide) (fun h4 => ?_) (fun h4 => ?_)
        · skip
          refine J_aload_n dX7_whyNotFired_62 rfl rfl ?_
          refine J_iload_n dX7_whyNotFired_63 rfl ?_
          refine J_iconst (1) dX7_whyNotFired_64 rfl ?_
          refine J_cV2r (mc := mX7_of) hM.1 (by decide) rfl dX7_whyNotFired_65 mlX7_34 okX7_of (kX7_of S I o x 1 hM (jofv hb (k := 1) rfl (by decide))) (Nat.le_of_ble_eq_true rfl) (Nat.le_of_ble_eq_true rfl) (Nat.le_of_ble_eq_true rfl) (Nat.le_of_ble_eq_true rfl) ?_
          refine J_aload_n dX7_whyNotFired_68 rfl rfl ?_
          refine J_iload_n dX7_whyNotFired_69 rfl ?_
          refine J_bipush (10) dX7_whyNotFired_70 rfl ?_
          refine J_cV2r (mc := mX7_of) hM.1 (by decide) rfl dX7_whyNotFired_72 mlX7_34 okX7_of (kX7_of S I o x 10 hM (jofv hb (k := 10) rfl (by decide))) (Nat.le_of_ble_eq_true rfl) (Nat.le_of_ble_eq_true rfl) (Nat.le_of_ble_eq_true rfl) (Nat.le_of_ble_eq_true rfl) ?_
          refine J_icmp_le (tgt := 83) dX7_whyNotFired_75 (by decide) (fun h5 => ?_) (fun h5 => ?_)
          · skip
            refine J_iconst (0) dX7_whyNotFired_83 rfl ?_
            exact J_iret (ty := .int) hR dX7_whyNotFired_84 rfl rfl (Nat.le_of_ble_eq_true rfl) (Nat.le_of_ble_eq_true rfl) (jRes_i (by first | (simp only [fX7_whyNotFired, if_pos h1, if_neg h2, if_pos h3, if_neg h4, if_pos h5]; done) | rfl | (simp only [fX7_whyNotFired, if_pos h1, if_neg h2, if_pos h3, if_neg h4, if_pos h5]; rfl)) rfl)
          · skip
            refine J_bipush (6) dX7_whyNotFired_78 rfl ?_
            refine J_goto (tgt := 84) dX7_whyNotFired_80 (by decide) ?_
            exact J_iret (ty := .int) hR dX7_whyNotFired_84 rfl rfl (Nat.le_of_ble_eq_true rfl) (Nat.le_of_ble_eq_true rfl) (jRes_i (by first | (simp only [fX7_whyNotFired, if_pos h1, if_neg h2, if_pos h3, if_neg h4, if_neg h5]; done) | rfl | (simp only [fX7_whyNotFired, if_pos h1, if_neg h2, if_pos h3, if_neg h4, if_neg h5]; rfl)) rfl)
        · skip
          refine J_iconst (5) dX7_whyNotFired_58 rfl ?_
          refine J_goto (tgt := 84) dX7_whyNotFired_59 (by decide) ?_
          exact J_iret (ty := .int) hR dX7_whyNotFired_84 rfl rfl (Nat.le_of_ble_eq_true rfl) (Nat.le_of_ble_eq_true rfl) (jRes_i (by first | (simp only [fX7_whyNotFired, if_pos h1, if_neg h2, if_pos h3, if_pos h4]; done) | rfl | (simp only [fX7_whyNotFired, if_pos h1, if_neg h2, if_pos h3, if_pos h4]; rfl)) rfl)
      · skip
        refine J_iconst (4) dX7_whyNotFired_46 rfl ?_
        refine J_goto (tgt := 84) dX7_whyNotFired_47 (by decide) ?_
        exact J_iret (ty := .int) hR dX7_whyNotFired_84 rfl rfl (Nat.le_of_ble_eq_true rfl) (Nat.le_of_ble_eq_true rfl) (jRes_i (by first | (simp only [fX7_whyNotFired, if_pos h1, if_neg h2, if_neg h3]; done) | rfl | (simp only [fX7_whyNotFired, if_pos h1, if_neg h2, if_neg h3]; rfl)) rfl)
    · skip
      refine J_iconst (3) dX7_whyNotFired_36 rfl ?_
      exact J_iret (ty := .int) hR dX7_whyNotFired_37 rfl rfl (Nat.le_of_ble_eq_true rfl) (Nat.le_of_ble_eq_true rfl) (jRes_i (by first | (simp only [fX7_whyNotFired, if_pos h1, if_pos h2]; done) | rfl | (simp only [fX7_whyNotFired, if_pos h1, if_pos h2]; rfl)) rfl)
  · skip
    refine J_aload_n dX7_whyNotFired_9 rfl rfl ?_
    refine J_iload_n dX7_whyNotFired_10 rfl ?_
    refine J_iconst (3) dX7_whyNotFired_11 rfl ?_
    refine J_cV2r (mc := mX7_of) hM.1 (by decide) rfl dX7_whyNotFired_12 mlX7_34 okX7_of (kX7_of S I o x 3 hM (jofv hb (k := 3) rfl (by decide))) (Nat.le_of_ble_eq_true rfl) (Nat.le_of_ble_eq_true rfl) (Nat.le_of_ble_eq_true rfl) (Nat.le_of_ble_eq_true rfl) ?_
    refine J_iconst (2) dX7_whyNotFired_15 rfl ?_
    refine J_icmp_ne (tgt := 23) dX7_whyNotFired_16 (by decide) (fun h6 => ?_) (fun h6 => ?_)
    · skip
      refine J_iconst (2) dX7_whyNotFired_23 rfl ?_
      exact J_iret (ty := .int) hR dX7_whyNotFired_24 rfl rfl (Nat.le_of_ble_eq_true rfl) (Nat.le_of_ble_eq_true rfl) (jRes_i (by first | (simp only [fX7_whyNotFired, if_neg h1, if_neg h6]; done) | rfl | (simp only [fX7_whyNotFired, if_neg h1, if_neg h6]; rfl)) rfl)
    · skip
      refine J_iconst (1) dX7_whyNotFired_19 rfl ?_
      refine J_goto (tgt := 24) dX7_whyNotFired_20 (by decide) ?_
      exact J_iret (ty := .int) hR dX7_whyNotFired_24 rfl rfl (Nat.le_of_ble_eq_true rfl) (Nat.le_of_ble_eq_true rfl) (jRes_i (by first | (simp only [fX7_whyNotFired, if_neg h1, if_pos h6]; done) | rfl | (simp only [fX7_whyNotFired, if_neg h1, if_pos h6]; rfl)) rfl)
def fX7_whyNotInspected (I : jI) (o : Nat) (x : Int32) (y : Int32) : Int32 :=
  if (fX7_of I o x 3) = 0 then
    if (fX7_of I o x 4) = 0 then
      3
    else
      if (fX7_of I o x 6) = 1 then
        4
      else
        if (fX7_by I o y 2) = (fX7_by I o y 1) then
          5
        else
          0
  else
    if (fX7_of I o x 3) = 2 then
      1
    else
      2
set_option maxRecDepth 100000 in
set_option maxHeartbeats 4000000 in
theorem kX7_whyNotInspected (S : jX) (I : jI) (o : Nat) (x : Int32) (y : Int32) (hM : jModel S o) (hb : jB8 x) (hi : jB6 y) : jM (1, 0, 0) mX7_whyNotInspected [.ref o, .int x, .int y] S I (jRes (some (.int (fX7_whyNotInspected I o x y))) S I) := by
  refine jM.of (ls := [.ref o, .int x, .int y]) (by decide) (Nat.le_of_ble_eq_true rfl) (by intro v hv; simp only [List.mem_cons, List.not_mem_nil, or_false] at hv; rcases hv with rfl | rfl | rfl <;> rfl) rfl (fun G hR => ?_)
  refine J_aload_n dX7_whyNotInspected_0 rfl rfl ?_
  refine J_iload_n dX7_whyNotInspected_1 rfl ?_
  refine J_iconst (3) dX7_whyNotInspected_2 rfl ?_
  refine J_cV2r (mc := mX7_of) hM.1 (by decide) rfl dX7_whyNotInspected_3 mlX7_34 okX7_of (kX7_of S I o x 3 hM (jofv hb (k := 3) rfl (by decide))) (Nat.le_of_ble_eq_true rfl) (Nat.le_of_ble_eq_true rfl) (Nat.le_of_ble_eq_true rfl) (Nat.le_of_ble_eq_true rfl) ?_
  refine J_if_eq (tgt := 25) dX7_whyNotInspected_6 (by decide) (fun h1 => ?_) (fun h1 => ?_)
  · skip
    refine J_aload_n dX7_whyNotInspected_25 rfl rfl ?_
    refine J_iload_n dX7_whyNotInspected_26 rfl ?_
    refine J_iconst (4) dX7_whyNotInspected_27 rfl ?_
    refine J_cV2r (mc := mX7_of) hM.1 (by decide) rfl dX7_whyNotInspected_28 mlX7_34 okX7_of (kX7_of S I o x 4 hM (jofv hb (k := 4) rfl (by decide))) (Nat.le_of_ble_eq_true rfl) (Nat.le_of_ble_eq_true rfl) (Nat.le_of_ble_eq_true rfl) (Nat.le_of_ble_eq_true rfl) ?_
    refine J_if_ne (tgt := 36) dX7_whyNotInspected_31 (by decide) (fun h2 => ?_) (fun h2 => ?_)
    · skip
      refine J_aload_n dX7_whyNotInspected_36 rfl rfl ?_
      refine J_iload_n dX7_whyNotInspected_37 rfl ?_
      refine J_bipush (6) dX7_whyNotInspected_38 rfl ?_
      refine J_cV2r (mc := mX7_of) hM.1 (by decide) rfl dX7_whyNotInspected_40 mlX7_34 okX7_of (kX7_of S I o x 6 hM (jofv hb (k := 6) rfl (by decide))) (Nat.le_of_ble_eq_true rfl) (Nat.le_of_ble_eq_true rfl) (Nat.le_of_ble_eq_true rfl) (Nat.le_of_ble_eq_true rfl) ?_
      refine J_iconst (1) dX7_whyNotInspected_43 rfl ?_
      refine J_icmp_ne (tgt := 51) dX7_whyNotInspected_44 (by decide) (fun h3 => ?_) (fun h3 => ?_)
      · skip
        refine J_aload_n dX7_whyNotInspected_51 rfl rfl ?_
        refine J_iload_n dX7_whyNotInspected_52 rfl ?_
        refine J_iconst (2) dX7_whyNotInspected_53 rfl ?_
        refine J_cV2r (mc := mX7_by) hM.1 (by decide) rfl dX7_whyNotInspected_54 mlX7_49 okX7_by (kX7_by S I o y 2 hM (jbyv hi (k := 2) rfl (by decide))) (Nat.le_of_ble_eq_true rfl) (Nat.le_of_ble_eq_true rfl) (Nat.le_of_ble_eq_true rfl) (Nat.le_of_ble_eq_true rfl) ?_
        refine J_aload_n dX7_whyNotInspected_57 rfl rfl ?_
        refine J_iload_n dX7_whyNotInspected_58 rfl ?_
        refine J_iconst (1) dX7_whyNotInspected_59 rfl ?_
        refine J_cV2r (mc := mX7_by) hM.1 (by decide) rfl dX7_whyNotInspected_60 mlX7_49 okX7_by (kX7_by S I o y 1 hM (jbyv hi (k := 1) rfl (by decide))) (Nat.le_of_ble_eq_true rfl) (Nat.le_of_ble_eq_true rfl) (Nat.le_of_ble_eq_true rfl) (Nat.le_of_ble_eq_true rfl) ?_
        refine J_icmp_ne (tgt := 70) dX7_whyNotInspected_63 (by decide) (fun h4 => ?_) (fun h4 => ?_)
        · skip
          refine J_iconst (0) dX7_whyNotInspected_70 rfl ?_
          exact J_iret (ty := .int) hR dX7_whyNotInspected_71 rfl rfl (Nat.le_of_ble_eq_true rfl) (Nat.le_of_ble_eq_true rfl) (jRes_i (by first | (simp only [fX7_whyNotInspected, if_pos h1, if_neg h2, if_neg h3, if_neg h4]; done) | rfl | (simp only [fX7_whyNotInspected, if_pos h1, if_neg h2, if_neg h3, if_neg h4]; rfl)) rfl)
        · skip
          refine J_iconst (5) dX7_whyNotInspected_66 rfl ?_
          refine J_goto (tgt := 71) dX7_whyNotInspected_67 (by decide) ?_
          exact J_iret (ty := .int) hR dX7_whyNotInspected_71 rfl rfl (Nat.le_of_ble_eq_true rfl) (Nat.le_of_ble_eq_true rfl) (jRes_i (by first | (simp only [fX7_whyNotInspected, if_pos h1, if_neg h2, if_neg h3, if_pos h4]; done) | rfl | (simp only [fX7_whyNotInspected, if_pos h1, if_neg h2, if_neg h3, if_pos h4]; rfl)) rfl)
      · skip
        refine J_iconst (4) dX7_whyNotInspected_47 rfl ?_
        refine J_goto (tgt := 71) dX7_whyNotInspected_48 (by decide) ?_
        exact J_iret (ty := .int) hR dX7_whyNotInspected_71 rfl rfl (Nat.le_of_ble_eq_true rfl) (Nat.le_of_ble_eq_true rfl) (jRes_i (by first | (simp only [fX7_whyNotInspected, if_pos h1, if_neg h2, if_pos h3]; done) | rfl | (simp only [fX7_whyNotInspected, if_pos h1, if_neg h2, if_pos h3]; rfl)) rfl)
    · skip
      refine J_iconst (3) dX7_whyNotInspected_34 rfl ?_
      exact J_iret (ty := .int) hR dX7_whyNotInspected_35 rfl rfl (Nat.le_of_ble_eq_true rfl) (Nat.le_of_ble_eq_true rfl) (jRes_i (by first | (simp only [fX7_whyNotInspected, if_pos h1, if_pos h2]; done) | rfl | (simp only [fX7_whyNotInspected, if_pos h1, if_pos h2]; rfl)) rfl)
  · skip
    refine J_aload_n dX7_whyNotInspected_9 rfl rfl ?_
    refine J_iload_n dX7_whyNotInspected_10 rfl ?_
    refine J_iconst (3) dX7_whyNotInspected_11 rfl ?_
    refine J_cV2r (mc := mX7_of) hM.1 (by decide) rfl dX7_whyNotInspected_12 mlX7_34 okX7_of (kX7_of S I o x 3 hM (jofv hb (k := 3) rfl (by decide))) (Nat.le_of_ble_eq_true rfl) (Nat.le_of_ble_eq_true rfl) (Nat.le_of_ble_eq_true rfl) (Nat.le_of_ble_eq_true rfl) ?_
    refine J_iconst (2) dX7_whyNotInspected_15 rfl ?_
    refine J_icmp_ne (tgt := 23) dX7_whyNotInspected_16 (by decide) (fun h5 => ?_) (fun h5 => ?_)
    · skip
      refine J_iconst (2) dX7_whyNotInspected_23 rfl ?_
      exact J_iret (ty := .int) hR dX7_whyNotInspected_24 rfl rfl (Nat.le_of_ble_eq_true rfl) (Nat.le_of_ble_eq_true rfl) (jRes_i (by first | (simp only [fX7_whyNotInspected, if_neg h1, if_neg h5]; done) | rfl | (simp only [fX7_whyNotInspected, if_neg h1, if_neg h5]; rfl)) rfl)
    · skip
      refine J_iconst (1) dX7_whyNotInspected_19 rfl ?_
      refine J_goto (tgt := 24) dX7_whyNotInspected_20 (by decide) ?_
      exact J_iret (ty := .int) hR dX7_whyNotInspected_24 rfl rfl (Nat.le_of_ble_eq_true rfl) (Nat.le_of_ble_eq_true rfl) (jRes_i (by first | (simp only [fX7_whyNotInspected, if_neg h1, if_pos h5]; done) | rfl | (simp only [fX7_whyNotInspected, if_neg h1, if_pos h5]; rfl)) rfl)
def fX7_cools (I : jI) (o : Nat) (x : Int32) : jI :=
  (fX7_lays (fX7_lays I o x 3 0) o x 4 0)
set_option maxRecDepth 100000 in
set_option maxHeartbeats 4000000 in
theorem kX7_cools (S : jX) (I : jI) (o : Nat) (x : Int32) (hM : jModel S o) (hb : jB8 x) : jM (1, 0, 0) mX7_cools [.ref o, .int x] S I (jRes none S (fX7_cools I o x)) := by
  refine jM.of (ls := [.ref o, .int x]) (by decide) (Nat.le_of_ble_eq_true rfl) (by intro v hv; simp only [List.mem_cons, List.not_mem_nil, or_false] at hv; rcases hv with rfl | rfl <;> rfl) rfl (fun G hR => ?_)
  refine J_aload_n dX7_cools_0 rfl rfl ?_
  refine J_iload_n dX7_cools_1 rfl ?_
  refine J_iconst (3) dX7_cools_2 rfl ?_
  refine J_iconst (0) dX7_cools_3 rfl ?_
  refine J_cV3 (mc := mX7_lays) hM.1 (by decide) rfl dX7_cools_4 mlX7_52 okX7_lays (kX7_lays S I o x 3 0 hM (jofv hb (k := 3) rfl (by decide))) (Nat.le_of_ble_eq_true rfl) (Nat.le_of_ble_eq_true rfl) (Nat.le_of_ble_eq_true rfl) (Nat.le_of_ble_eq_true rfl) ?_
  refine J_aload_n dX7_cools_7 rfl rfl ?_
  refine J_iload_n dX7_cools_8 rfl ?_
  refine J_iconst (4) dX7_cools_9 rfl ?_
  refine J_iconst (0) dX7_cools_10 rfl ?_
  refine J_cV3 (mc := mX7_lays) hM.1 (by decide) rfl dX7_cools_11 mlX7_52 okX7_lays (kX7_lays S (fX7_lays I o x 3 0) o x 4 0 hM (jofv hb (k := 4) rfl (by decide))) (Nat.le_of_ble_eq_true rfl) (Nat.le_of_ble_eq_true rfl) (Nat.le_of_ble_eq_true rfl) (Nat.le_of_ble_eq_true rfl) ?_
  exact J_vret hR dX7_cools_14 rfl (Nat.le_of_ble_eq_true rfl) (Nat.le_of_ble_eq_true rfl) (jRes_v (by first | (simp only [fX7_cools]; done) | rfl | (simp only [fX7_cools]; rfl)))
def fX7_pays (I : jI) (o : Nat) (x : Int32) (y : Int32) : jI :=
  (jset (jset I (o + 1) ((14 : Int32).toNatClampNeg) ((I (o + 1) ((14 : Int32).toNatClampNeg)) - y)) (o + 1) ((11 + x)).toNatClampNeg (((jset I (o + 1) ((14 : Int32).toNatClampNeg) ((I (o + 1) ((14 : Int32).toNatClampNeg)) - y)) (o + 1) ((11 + x)).toNatClampNeg) + y))
set_option maxRecDepth 100000 in
set_option maxHeartbeats 4000000 in
theorem kX7_pays (S : jX) (I : jI) (o : Nat) (x : Int32) (y : Int32) (hM : jModel S o) (h11 : vp_in (11 + x) 141) : jM (0, 0, 0) mX7_pays [.ref o, .int x, .int y] S I (jRes none S (fX7_pays I o x y)) := by
  refine jM.of (ls := [.ref o, .int x, .int y]) (by decide) (Nat.le_of_ble_eq_true rfl) (by intro v hv; simp only [List.mem_cons, List.not_mem_nil, or_false] at hv; rcases hv with rfl | rfl | rfl <;> rfl) rfl (fun G hR => ?_)
  refine J_aload_n dX7_pays_0 rfl rfl ?_
  refine J_getR dX7_pays_1 flX7_7 rfl hM.1 hM.r0 ?_
  refine J_bipush (14) dX7_pays_4 rfl ?_
  refine J_dup2 dX7_pays_6 rfl rfl ?_
  refine J_iaload dX7_pays_7 hM.a0 (by first | exact h11 | (unfold vp_in; decide)) ?_
  refine J_iload_n dX7_pays_8 rfl ?_
  refine J_isub dX7_pays_9 ?_
  refine J_iastore dX7_pays_10 hM.a0 (by first | exact h11 | (unfold vp_in; decide)) ?_
  refine J_aload_n dX7_pays_11 rfl rfl ?_
  refine J_getR dX7_pays_12 flX7_7 rfl hM.1 hM.r0 ?_
  refine J_bipush (11) dX7_pays_15 rfl ?_
  refine J_iload_n dX7_pays_17 rfl ?_
  refine J_iadd dX7_pays_18 ?_
  refine J_dup2 dX7_pays_19 rfl rfl ?_
  refine J_iaload dX7_pays_20 hM.a0 (by first | exact h11 | (unfold vp_in; decide)) ?_
  refine J_iload_n dX7_pays_21 rfl ?_
  refine J_iadd dX7_pays_22 ?_
  refine J_iastore dX7_pays_23 hM.a0 (by first | exact h11 | (unfold vp_in; decide)) ?_
  exact J_vret hR dX7_pays_24 rfl (Nat.le_of_ble_eq_true rfl) (Nat.le_of_ble_eq_true rfl) (jRes_v (by first | (simp only [fX7_pays]; done) | rfl | (simp only [fX7_pays]; rfl)))
def fX7_repairs (I : jI) (o : Nat) (x : Int32) : jI :=
  if (fX7_of I o x 3) = 2 then
    if (fX7_of I o x 5) = (I (o + 1) ((2 : Int32).toNatClampNeg)) then
      (fX7_lays (fX7_lays (fX7_lays (fX7_cools I o x) o x 2 ((fX7_of (fX7_cools I o x) o x 2) / 4)) o x 6 0) o x 9 (-1))
    else
      I
  else
    I
set_option maxRecDepth 100000 in
set_option maxHeartbeats 4000000 in
theorem kX7_repairs (S : jX) (I : jI) (o : Nat) (x : Int32) (hM : jModel S o) (hb : jB8 x) : jM (2, 0, 0) mX7_repairs [.ref o, .int x] S I (jRes none S (fX7_repairs I o x)) := by
  refine jM.of (ls := [.ref o, .int x]) (by decide) (Nat.le_of_ble_eq_true rfl) (by intro v hv; simp only [List.mem_cons, List.not_mem_nil, or_false] at hv; rcases hv with rfl | rfl <;> rfl) rfl (fun G hR => ?_)
  refine J_aload_n dX7_repairs_0 rfl rfl ?_
  refine J_iload_n dX7_repairs_1 rfl ?_
  refine J_iconst (3) dX7_repairs_2 rfl ?_
  refine J_cV2r (mc := mX7_of) hM.1 (by decide) rfl dX7_repairs_3 mlX7_34 okX7_of (kX7_of S I o x 3 hM (jofv hb (k := 3) rfl (by decide))) (Nat.le_of_ble_eq_true rfl) (Nat.le_of_ble_eq_true rfl) (Nat.le_of_ble_eq_true rfl) (Nat.le_of_ble_eq_true rfl) ?_
  refine J_iconst (2) dX7_repairs_6 rfl ?_
  refine J_icmp_ne (tgt := 60) dX7_repairs_7 (by decide) (fun h1 => ?_) (fun h1 => ?_)
  · skip
    exact J_vret hR dX7_repairs_60 rfl (Nat.le_of_ble_eq_true rfl) (Nat.le_of_ble_eq_true rfl) (jRes_v (by first | (simp only [fX7_repairs, if_neg h1]; done) | rfl | (simp only [fX7_repairs, if_neg h1]; rfl)))
  · skip
    refine J_aload_n dX7_repairs_10 rfl rfl ?_
    refine J_iload_n dX7_repairs_11 rfl ?_
    refine J_iconst (5) dX7_repairs_12 rfl ?_
    refine J_cV2r (mc := mX7_of) hM.1 (by decide) rfl dX7_repairs_13 mlX7_34 okX7_of (kX7_of S I o x 5 hM (jofv hb (k := 5) rfl (by decide))) (Nat.le_of_ble_eq_true rfl) (Nat.le_of_ble_eq_true rfl) (Nat.le_of_ble_eq_true rfl) (Nat.le_of_ble_eq_true rfl) ?_
    refine J_aload_n dX7_repairs_16 rfl rfl ?_
    refine J_getR dX7_repairs_17 flX7_7 rfl hM.1 hM.r0 ?_
    refine J_iconst (2) dX7_repairs_20 rfl ?_
    refine J_iaload dX7_repairs_21 hM.a0 (by unfold vp_in; decide) ?_
    refine J_icmp_ne (tgt := 60) dX7_repairs_22 (by decide) (fun h2 => ?_) (fun h2 => ?_)
    · skip
      exact J_vret hR dX7_repairs_60 rfl (Nat.le_of_ble_eq_true rfl) (Nat.le_of_ble_eq_true rfl) (jRes_v (by first | (simp only [fX7_repairs, if_pos h1, if_neg h2]; done) | rfl | (simp only [fX7_repairs, if_pos h1, if_neg h2]; rfl)))
    · skip
      refine J_aload_n dX7_repairs_25 rfl rfl ?_
      refine J_iload_n dX7_repairs_26 rfl ?_
      refine J_cV1 (mc := mX7_cools) hM.1 (by decide) rfl dX7_repairs_27 mlX7_56 okX7_cools (kX7_cools S I o x hM hb) (Nat.le_of_ble_eq_true rfl) (Nat.le_of_ble_eq_true rfl) (Nat.le_of_ble_eq_true rfl) (Nat.le_of_ble_eq_true rfl) ?_
      refine J_aload_n dX7_repairs_30 rfl rfl ?_
      refine J_iload_n dX7_repairs_31 rfl ?_
      refine J_iconst (2) dX7_repairs_32 rfl ?_
      refine J_aload_n dX7_repairs_33 rfl rfl ?_
      refine J_iload_n dX7_repairs_34 rfl ?_
      refine J_iconst (2) dX7_repairs_35 rfl ?_
      refine J_cV2r (mc := mX7_of) hM.1 (by decide) rfl dX7_repairs_36 mlX7_34 okX7_of (kX7_of S (fX7_cools I o x) o x 2 hM (jofv hb (k := 2) rfl (by decide))) (Nat.le_of_ble_eq_true rfl) (Nat.le_of_ble_eq_true rfl) (Nat.le_of_ble_eq_true rfl) (Nat.le_of_ble_eq_true rfl) ?_
      refine J_iconst (4) dX7_repairs_39 rfl ?_
      refine J_idiv dX7_repairs_40 (by decide) ?_
      refine J_cV3 (mc := mX7_lays) hM.1 (by decide) rfl dX7_repairs_41 mlX7_52 okX7_lays (kX7_lays S (fX7_cools I o x) o x 2 ((fX7_of (fX7_cools I o x) o x 2) / 4) hM (jofv hb (k := 2) rfl (by decide))) (Nat.le_of_ble_eq_true rfl) (Nat.le_of_ble_eq_true rfl) (Nat.le_of_ble_eq_true rfl) (Nat.le_of_ble_eq_true rfl) ?_
      refine J_aload_n dX7_repairs_44 rfl rfl ?_
      refine J_iload_n dX7_repairs_45 rfl ?_
      refine J_bipush (6) dX7_repairs_46 rfl ?_
      refine J_iconst (0) dX7_repairs_48 rfl ?_
      refine J_cV3 (mc := mX7_lays) hM.1 (by decide) rfl dX7_repairs_49 mlX7_52 okX7_lays (kX7_lays S (fX7_lays (fX7_cools I o x) o x 2 ((fX7_of (fX7_cools I o x) o x 2) / 4)) o x 6 0 hM (jofv hb (k := 6) rfl (by decide))) (Nat.le_of_ble_eq_true rfl) (Nat.le_of_ble_eq_true rfl) (Nat.le_of_ble_eq_true rfl) (Nat.le_of_ble_eq_true rfl) ?_
      refine J_aload_n dX7_repairs_52 rfl rfl ?_
      refine J_iload_n dX7_repairs_53 rfl ?_
      refine J_bipush (9) dX7_repairs_54 rfl ?_
      refine J_iconst (-1) dX7_repairs_56 rfl ?_
      refine J_cV3 (mc := mX7_lays) hM.1 (by decide) rfl dX7_repairs_57 mlX7_52 okX7_lays (kX7_lays S (fX7_lays (fX7_lays (fX7_cools I o x) o x 2 ((fX7_of (fX7_cools I o x) o x 2) / 4)) o x 6 0) o x 9 (-1) hM (jofv hb (k := 9) rfl (by decide))) (Nat.le_of_ble_eq_true rfl) (Nat.le_of_ble_eq_true rfl) (Nat.le_of_ble_eq_true rfl) (Nat.le_of_ble_eq_true rfl) ?_
      exact J_vret hR dX7_repairs_60 rfl (Nat.le_of_ble_eq_true rfl) (Nat.le_of_ble_eq_true rfl) (jRes_v (by first | (simp only [fX7_repairs, if_pos h1, if_pos h2]; done) | rfl | (simp only [fX7_repairs, if_pos h1, if_pos h2]; rfl)))
def fX7_grows (I : jI) (o : Nat) (x : Int32) : jI :=
  if (fX7_of I o x 3) = 1 then
    if (((fX7_of I o x 2) + 1) + ((fX7_of I o x 1) / 10)) ≤ 200 then
      if (fX7_of (fX7_lays I o x 2 (((fX7_of I o x 2) + 1) + ((fX7_of I o x 1) / 10))) o x 3) = 0 then
        (fX7_lays (fX7_lays I o x 2 (((fX7_of I o x 2) + 1) + ((fX7_of I o x 1) / 10))) o x 4 ((fX7_of (fX7_lays I o x 2 (((fX7_of I o x 2) + 1) + ((fX7_of I o x 1) / 10))) o x 4) + 1))
      else
        (fX7_lays I o x 2 (((fX7_of I o x 2) + 1) + ((fX7_of I o x 1) / 10)))
    else
      if (fX7_of (fX7_lays I o x 2 200) o x 3) = 0 then
        (fX7_lays (fX7_lays I o x 2 200) o x 4 ((fX7_of (fX7_lays I o x 2 200) o x 4) + 1))
      else
        (fX7_lays I o x 2 200)
  else
    if (fX7_of I o x 3) = 0 then
      (fX7_lays I o x 4 ((fX7_of I o x 4) + 1))
    else
      I
set_option maxRecDepth 100000 in
set_option maxHeartbeats 4000000 in
theorem kX7_grows (S : jX) (I : jI) (o : Nat) (x : Int32) (hM : jModel S o) (hb : jB8 x) : jM (1, 0, 0) mX7_grows [.ref o, .int x] S I (jRes none S (fX7_grows I o x)) := by
  refine jM.of (ls := [.ref o, .int x, .long 0]) (by decide) (Nat.le_of_ble_eq_true rfl) (by intro v hv; simp only [List.mem_cons, List.not_mem_nil, or_false] at hv; rcases hv with rfl | rfl <;> rfl) rfl (fun G hR => ?_)
  refine J_aload_n dX7_grows_0 rfl rfl ?_
  refine J_iload_n dX7_grows_1 rfl ?_
  refine J_iconst (3) dX7_grows_2 rfl ?_
  refine J_cV2r (mc := mX7_of) hM.1 (by decide) rfl dX7_grows_3 mlX7_34 okX7_of (kX7_of S I o x 3 hM (jofv hb (k := 3) rfl (by decide))) (Nat.le_of_ble_eq_true rfl) (Nat.le_of_ble_eq_true rfl) (Nat.le_of_ble_eq_true rfl) (Nat.le_of_ble_eq_true rfl) ?_
  refine J_iconst (1) dX7_grows_6 rfl ?_
  refine J_icmp_ne (tgt := 49) dX7_grows_7 (by decide) (fun h1 => ?_) (fun h1 => ?_)
  · skip
    refine J_aload_n dX7_grows_49 rfl rfl ?_
    refine J_iload_n dX7_grows_50 rfl ?_
    refine J_iconst (3) dX7_grows_51 rfl ?_
    refine J_cV2r (mc := mX7_of) hM.1 (by decide) rfl dX7_grows_52 mlX7_34 okX7_of (kX7_of S I o x 3 hM (jofv hb (k := 3) rfl (by decide))) (Nat.le_of_ble_eq_true rfl) (Nat.le_of_ble_eq_true rfl) (Nat.le_of_ble_eq_true rfl) (Nat.le_of_ble_eq_true rfl) ?_
    refine J_if_ne (tgt := 72) dX7_grows_55 (by decide) (fun h2 => ?_) (fun h2 => ?_)
    · skip
      exact J_vret hR dX7_grows_72 rfl (Nat.le_of_ble_eq_true rfl) (Nat.le_of_ble_eq_true rfl) (jRes_v (by first | (simp only [fX7_grows, if_neg h1, if_neg h2]; done) | rfl | (simp only [fX7_grows, if_neg h1, if_neg h2]; rfl)))
    · skip
      refine J_aload_n dX7_grows_58 rfl rfl ?_
      refine J_iload_n dX7_grows_59 rfl ?_
      refine J_iconst (4) dX7_grows_60 rfl ?_
      refine J_aload_n dX7_grows_61 rfl rfl ?_
      refine J_iload_n dX7_grows_62 rfl ?_
      refine J_iconst (4) dX7_grows_63 rfl ?_
      refine J_cV2r (mc := mX7_of) hM.1 (by decide) rfl dX7_grows_64 mlX7_34 okX7_of (kX7_of S I o x 4 hM (jofv hb (k := 4) rfl (by decide))) (Nat.le_of_ble_eq_true rfl) (Nat.le_of_ble_eq_true rfl) (Nat.le_of_ble_eq_true rfl) (Nat.le_of_ble_eq_true rfl) ?_
      refine J_iconst (1) dX7_grows_67 rfl ?_
      refine J_iadd dX7_grows_68 ?_
      refine J_cV3 (mc := mX7_lays) hM.1 (by decide) rfl dX7_grows_69 mlX7_52 okX7_lays (kX7_lays S I o x 4 ((fX7_of I o x 4) + 1) hM (jofv hb (k := 4) rfl (by decide))) (Nat.le_of_ble_eq_true rfl) (Nat.le_of_ble_eq_true rfl) (Nat.le_of_ble_eq_true rfl) (Nat.le_of_ble_eq_true rfl) ?_
      exact J_vret hR dX7_grows_72 rfl (Nat.le_of_ble_eq_true rfl) (Nat.le_of_ble_eq_true rfl) (jRes_v (by first | (simp only [fX7_grows, if_neg h1, if_pos h2]; done) | rfl | (simp only [fX7_grows, if_neg h1, if_pos h2]; rfl)))
  · skip
    refine J_aload_n dX7_grows_10 rfl rfl ?_
    refine J_iload_n dX7_grows_11 rfl ?_
    refine J_iconst (2) dX7_grows_12 rfl ?_
    refine J_cV2r (mc := mX7_of) hM.1 (by decide) rfl dX7_grows_13 mlX7_34 okX7_of (kX7_of S I o x 2 hM (jofv hb (k := 2) rfl (by decide))) (Nat.le_of_ble_eq_true rfl) (Nat.le_of_ble_eq_true rfl) (Nat.le_of_ble_eq_true rfl) (Nat.le_of_ble_eq_true rfl) ?_
    refine J_iconst (1) dX7_grows_16 rfl ?_
    refine J_iadd dX7_grows_17 ?_
    refine J_aload_n dX7_grows_18 rfl rfl ?_
    refine J_iload_n dX7_grows_19 rfl ?_
    refine J_iconst (1) dX7_grows_20 rfl ?_
    refine J_cV2r (mc := mX7_of) hM.1 (by decide) rfl dX7_grows_21 mlX7_34 okX7_of (kX7_of S I o x 1 hM (jofv hb (k := 1) rfl (by decide))) (Nat.le_of_ble_eq_true rfl) (Nat.le_of_ble_eq_true rfl) (Nat.le_of_ble_eq_true rfl) (Nat.le_of_ble_eq_true rfl) ?_
    refine J_bipush (10) dX7_grows_24 rfl ?_
    refine J_idiv dX7_grows_26 (by decide) ?_
    refine J_iadd dX7_grows_27 ?_
    refine J_istore_n dX7_grows_28 (Nat.le_of_ble_eq_true rfl) ?_
    refine J_aload_n dX7_grows_29 rfl rfl ?_
    refine J_iload_n dX7_grows_30 rfl ?_
    refine J_iconst (2) dX7_grows_31 rfl ?_
    refine J_iload_n dX7_grows_32 rfl ?_
    refine J_sipush (200) dX7_grows_33 rfl ?_
    refine J_icmp_le (tgt := 45) dX7_grows_36 (by decide) (fun h3 => ?_) (fun h3 => ?_)
    · skip
      refine J_iload_n dX7_grows_45 rfl ?_
      refine J_cV3 (mc := mX7_lays) hM.1 (by decide) rfl dX7_grows_46 mlX7_52 okX7_lays (kX7_lays S I o x 2 (((fX7_of I o x 2) + 1) + ((fX7_of I o x 1) / 10)) hM (jofv hb (k := 2) rfl (by decide))) (Nat.le_of_ble_eq_true rfl) (Nat.le_of_ble_eq_true rfl) (Nat.le_of_ble_eq_true rfl) (Nat.le_of_ble_eq_true rfl) ?_
      refine J_aload_n dX7_grows_49 rfl rfl ?_
      refine J_iload_n dX7_grows_50 rfl ?_
      refine J_iconst (3) dX7_grows_51 rfl ?_
      refine J_cV2r (mc := mX7_of) hM.1 (by decide) rfl dX7_grows_52 mlX7_34 okX7_of (kX7_of S (fX7_lays I o x 2 (((fX7_of I o x 2) + 1) + ((fX7_of I o x 1) / 10))) o x 3 hM (jofv hb (k := 3) rfl (by decide))) (Nat.le_of_ble_eq_true rfl) (Nat.le_of_ble_eq_true rfl) (Nat.le_of_ble_eq_true rfl) (Nat.le_of_ble_eq_true rfl) ?_
      refine J_if_ne (tgt := 72) dX7_grows_55 (by decide) (fun h4 => ?_) (fun h4 => ?_)
      · skip
        exact J_vret hR dX7_grows_72 rfl (Nat.le_of_ble_eq_true rfl) (Nat.le_of_ble_eq_true rfl) (jRes_v (by first | (simp only [fX7_grows, if_pos h1, if_pos h3, if_neg h4]; done) | rfl | (simp only [fX7_grows, if_pos h1, if_pos h3, if_neg h4]; rfl)))
      · skip
        refine J_aload_n dX7_grows_58 rfl rfl ?_
        refine J_iload_n dX7_grows_59 rfl ?_
        refine J_iconst (4) dX7_grows_60 rfl ?_
        refine J_aload_n dX7_grows_61 rfl rfl ?_
        refine J_iload_n dX7_grows_62 rfl ?_
        refine J_iconst (4) dX7_grows_63 rfl ?_
        refine J_cV2r (mc := mX7_of) hM.1 (by decide) rfl dX7_grows_64 mlX7_34 okX7_of (kX7_of S (fX7_lays I o x 2 (((fX7_of I o x 2) + 1) + ((fX7_of I o x 1) / 10))) o x 4 hM (jofv hb (k := 4) rfl (by decide))) (Nat.le_of_ble_eq_true rfl) (Nat.le_of_ble_eq_true rfl) (Nat.le_of_ble_eq_true rfl) (Nat.le_of_ble_eq_true rfl) ?_
        refine J_iconst (1) dX7_grows_67 rfl ?_
        refine J_iadd dX7_grows_68 ?_
        refine J_cV3 (mc := mX7_lays) hM.1 (by decide) rfl dX7_grows_69 mlX7_52 okX7_lays (kX7_lays S (fX7_lays I o x 2 (((fX7_of I o x 2) + 1) + ((fX7_of I o x 1) / 10))) o x 4 ((fX7_of (fX7_lays I o x 2 (((fX7_of I o x 2) + 1) + ((fX7_of I o x 1) / 10))) o x 4) + 1) hM (jofv hb (k := 4) rfl (by decide))) (Nat.le_of_ble_eq_true rfl) (Nat.le_of_ble_eq_true rfl) (Nat.le_of_ble_eq_true rfl) (Nat.le_of_ble_eq_true rfl) ?_
        exact J_vret hR dX7_grows_72 rfl (Nat.le_of_ble_eq_true rfl) (Nat.le_of_ble_eq_true rfl) (jRes_v (by first | (simp only [fX7_grows, if_pos h1, if_pos h3, if_pos h4]; done) | rfl | (simp only [fX7_grows, if_pos h1, if_pos h3, if_pos h4]; rfl)))
    · skip
      refine J_sipush (200) dX7_grows_39 rfl ?_
      refine J_goto (tgt := 46) dX7_grows_42 (by decide) ?_
      refine J_cV3 (mc := mX7_lays) hM.1 (by decide) rfl dX7_grows_46 mlX7_52 okX7_lays (kX7_lays S I o x 2 200 hM (jofv hb (k := 2) rfl (by decide))) (Nat.le_of_ble_eq_true rfl) (Nat.le_of_ble_eq_true rfl) (Nat.le_of_ble_eq_true rfl) (Nat.le_of_ble_eq_true rfl) ?_
      refine J_aload_n dX7_grows_49 rfl rfl ?_
      refine J_iload_n dX7_grows_50 rfl ?_
      refine J_iconst (3) dX7_grows_51 rfl ?_
      refine J_cV2r (mc := mX7_of) hM.1 (by decide) rfl dX7_grows_52 mlX7_34 okX7_of (kX7_of S (fX7_lays I o x 2 200) o x 3 hM (jofv hb (k := 3) rfl (by decide))) (Nat.le_of_ble_eq_true rfl) (Nat.le_of_ble_eq_true rfl) (Nat.le_of_ble_eq_true rfl) (Nat.le_of_ble_eq_true rfl) ?_
      refine J_if_ne (tgt := 72) dX7_grows_55 (by decide) (fun h5 => ?_) (fun h5 => ?_)
      · skip
        exact J_vret hR dX7_grows_72 rfl (Nat.le_of_ble_eq_true rfl) (Nat.le_of_ble_eq_true rfl) (jRes_v (by first | (simp only [fX7_grows, if_pos h1, if_neg h3, if_neg h5]; done) | rfl | (simp only [fX7_grows, if_pos h1, if_neg h3, if_neg h5]; rfl)))
      · skip
        refine J_aload_n dX7_grows_58 rfl rfl ?_
        refine J_iload_n dX7_grows_59 rfl ?_
        refine J_iconst (4) dX7_grows_60 rfl ?_
        refine J_aload_n dX7_grows_61 rfl rfl ?_
        refine J_iload_n dX7_grows_62 rfl ?_
        refine J_iconst (4) dX7_grows_63 rfl ?_
        refine J_cV2r (mc := mX7_of) hM.1 (by decide) rfl dX7_grows_64 mlX7_34 okX7_of (kX7_of S (fX7_lays I o x 2 200) o x 4 hM (jofv hb (k := 4) rfl (by decide))) (Nat.le_of_ble_eq_true rfl) (Nat.le_of_ble_eq_true rfl) (Nat.le_of_ble_eq_true rfl) (Nat.le_of_ble_eq_true rfl) ?_
        refine J_iconst (1) dX7_grows_67 rfl ?_
        refine J_iadd dX7_grows_68 ?_
        refine J_cV3 (mc := mX7_lays) hM.1 (by decide) rfl dX7_grows_69 mlX7_52 okX7_lays (kX7_lays S (fX7_lays I o x 2 200) o x 4 ((fX7_of (fX7_lays I o x 2 200) o x 4) + 1) hM (jofv hb (k := 4) rfl (by decide))) (Nat.le_of_ble_eq_true rfl) (Nat.le_of_ble_eq_true rfl) (Nat.le_of_ble_eq_true rfl) (Nat.le_of_ble_eq_true rfl) ?_
        exact J_vret hR dX7_grows_72 rfl (Nat.le_of_ble_eq_true rfl) (Nat.le_of_ble_eq_true rfl) (jRes_v (by first | (simp only [fX7_grows, if_pos h1, if_neg h3, if_pos h5]; done) | rfl | (simp only [fX7_grows, if_pos h1, if_neg h3, if_pos h5]; rfl)))
theorem jin01 {I : jI} {x : Int32} (h : ¬ fX7_in I x 0 1 = 0) : jB2 x := by
  obtain ⟨h1, h2⟩ := jinT h
  obtain ⟨j, hj, rfl⟩ := nI_of (Int32.not_lt.mpr h1)
  have h3 : nI j ≤ nI 1 := h2
  rw [nI_leI hj (by decide)] at h3
  rcases (show j = 0 ∨ j = 1 by omega) with rfl | rfl
  · exact Or.inl rfl
  · exact Or.inr rfl

def fX7_comes (I : jI) (o : Nat) (x : Int32) : Int32 × jI :=
  if (fX7_in I x 2 40) = 0 then
    ((-2000000001), I)
  else
    if (I (o + 1) ((0 : Int32).toNatClampNeg)) = 8 then
      ((-2000000003), I)
    else
      ((I (o + 1) ((0 : Int32).toNatClampNeg)), (fX7_lays (fX7_lays (fX7_lays (fX7_lays (fX7_lays (fX7_lays (fX7_lays (fX7_lays (fX7_lays (fX7_lays (fX7_lays (fX7_lays (fX7_lays (fX7_lays (fX7_lays (fX7_lays (fX7_lays (jset I (o + 1) ((0 : Int32).toNatClampNeg) ((I (o + 1) ((0 : Int32).toNatClampNeg)) + 1)) o (I (o + 1) ((0 : Int32).toNatClampNeg)) 0 0) o (I (o + 1) ((0 : Int32).toNatClampNeg)) 1 0) o (I (o + 1) ((0 : Int32).toNatClampNeg)) 2 0) o (I (o + 1) ((0 : Int32).toNatClampNeg)) 3 0) o (I (o + 1) ((0 : Int32).toNatClampNeg)) 4 0) o (I (o + 1) ((0 : Int32).toNatClampNeg)) 5 0) o (I (o + 1) ((0 : Int32).toNatClampNeg)) 6 0) o (I (o + 1) ((0 : Int32).toNatClampNeg)) 7 0) o (I (o + 1) ((0 : Int32).toNatClampNeg)) 8 0) o (I (o + 1) ((0 : Int32).toNatClampNeg)) 9 0) o (I (o + 1) ((0 : Int32).toNatClampNeg)) 10 0) o (I (o + 1) ((0 : Int32).toNatClampNeg)) 11 0) o (I (o + 1) ((0 : Int32).toNatClampNeg)) 0 x) o (I (o + 1) ((0 : Int32).toNatClampNeg)) 1 x) o (I (o + 1) ((0 : Int32).toNatClampNeg)) 4 1) o (I (o + 1) ((0 : Int32).toNatClampNeg)) 7 (-1)) o (I (o + 1) ((0 : Int32).toNatClampNeg)) 9 (-1)))
set_option maxRecDepth 100000 in
set_option maxHeartbeats 4000000 in
theorem kX7_comes (S : jX) (I : jI) (o : Nat) (x : Int32) (hM : jModel S o) (hI : jMInv I o) : jM (1, 0, 0) mX7_comes [.ref o, .int x] S I (jRes (some (.int (fX7_comes I o x).1)) S (fX7_comes I o x).2) := by
  refine jM.of (ls := [.ref o, .int x, .long 0, .long 0]) (by decide) (Nat.le_of_ble_eq_true rfl) (by intro v hv; simp only [List.mem_cons, List.not_mem_nil, or_false] at hv; rcases hv with rfl | rfl <;> rfl) rfl (fun G hR => ?_)
  refine J_iload_n dX7_comes_0 rfl ?_
  refine J_iconst (2) dX7_comes_1 rfl ?_
  refine J_bipush (40) dX7_comes_2 rfl ?_
  refine J_cS3r (mc := mX7_in) dX7_comes_4 mlX7_30 okX7_in (kX7_in S I x 2 40 ) (Nat.le_of_ble_eq_true rfl) (Nat.le_of_ble_eq_true rfl) (Nat.le_of_ble_eq_true rfl) (Nat.le_of_ble_eq_true rfl) ?_
  refine J_if_ne (tgt := 13) dX7_comes_7 (by decide) (fun h1 => ?_) (fun h1 => ?_)
  · skip
    refine J_aload_n dX7_comes_13 rfl rfl ?_
    refine J_getR dX7_comes_14 flX7_7 rfl hM.1 hM.r0 ?_
    refine J_iconst (0) dX7_comes_17 rfl ?_
    refine J_iaload dX7_comes_18 hM.a0 (by unfold vp_in; decide) ?_
    refine J_bipush (8) dX7_comes_19 rfl ?_
    refine J_icmp_ne (tgt := 27) dX7_comes_21 (by decide) (fun h2 => ?_) (fun h2 => ?_)
    · skip
      refine J_aload_n dX7_comes_27 rfl rfl ?_
      refine J_getR dX7_comes_28 flX7_7 rfl hM.1 hM.r0 ?_
      refine J_iconst (0) dX7_comes_31 rfl ?_
      refine J_iaload dX7_comes_32 hM.a0 (by unfold vp_in; decide) ?_
      refine J_istore_n dX7_comes_33 (Nat.le_of_ble_eq_true rfl) ?_
      refine J_aload_n dX7_comes_34 rfl rfl ?_
      refine J_getR dX7_comes_35 flX7_7 rfl hM.1 hM.r0 ?_
      refine J_iconst (0) dX7_comes_38 rfl ?_
      refine J_dup2 dX7_comes_39 rfl rfl ?_
      refine J_iaload dX7_comes_40 hM.a0 (by unfold vp_in; decide) ?_
      refine J_iconst (1) dX7_comes_41 rfl ?_
      refine J_iadd dX7_comes_42 ?_
      refine J_iastore dX7_comes_43 hM.a0 (by unfold vp_in; decide) ?_
      refine J_iconst (0) dX7_comes_44 rfl ?_
      refine J_istore_n dX7_comes_45 (Nat.le_of_ble_eq_true rfl) ?_
      refine J_iload_n dX7_comes_46 rfl ?_
      refine J_bipush (12) dX7_comes_47 rfl ?_
      refine J_icmp_ge (tgt := 65) dX7_comes_49 (by decide) (fun h3 => ?_) (fun h3 => ?_)
      · skip
        exact absurd h3 (by decide)
      · skip
        refine J_aload_n dX7_comes_52 rfl rfl ?_
        refine J_iload_n dX7_comes_53 rfl ?_
        refine J_iload_n dX7_comes_54 rfl ?_
        refine J_iconst (0) dX7_comes_55 rfl ?_
        refine J_cV3 (mc := mX7_lays) hM.1 (by decide) rfl dX7_comes_56 mlX7_52 okX7_lays (kX7_lays S (jset I (o + 1) ((0 : Int32).toNatClampNeg) ((I (o + 1) ((0 : Int32).toNatClampNeg)) + 1)) o (I (o + 1) ((0 : Int32).toNatClampNeg)) 0 0 hM (jofv (jcomesB hI h2) (k := 0) rfl (by decide))) (Nat.le_of_ble_eq_true rfl) (Nat.le_of_ble_eq_true rfl) (Nat.le_of_ble_eq_true rfl) (Nat.le_of_ble_eq_true rfl) ?_
        refine J_iincv (y := 1) (v := 1) dX7_comes_59 rfl rfl rfl ?_
        refine J_goto (tgt := 46) dX7_comes_62 (by decide) ?_
        refine J_iload_n dX7_comes_46 rfl ?_
        refine J_bipush (12) dX7_comes_47 rfl ?_
        refine J_icmp_ge (tgt := 65) dX7_comes_49 (by decide) (fun h4 => ?_) (fun h4 => ?_)
        · skip
          exact absurd h4 (by decide)
        · skip
          refine J_aload_n dX7_comes_52 rfl rfl ?_
          refine J_iload_n dX7_comes_53 rfl ?_
          refine J_iload_n dX7_comes_54 rfl ?_
          refine J_iconst (0) dX7_comes_55 rfl ?_
          refine J_cV3 (mc := mX7_lays) hM.1 (by decide) rfl dX7_comes_56 mlX7_52 okX7_lays (kX7_lays S (fX7_lays (jset I (o + 1) ((0 : Int32).toNatClampNeg) ((I (o + 1) ((0 : Int32).toNatClampNeg)) + 1)) o (I (o + 1) ((0 : Int32).toNatClampNeg)) 0 0) o (I (o + 1) ((0 : Int32).toNatClampNeg)) 1 0 hM (jofv (jcomesB hI h2) (k := 1) rfl (by decide))) (Nat.le_of_ble_eq_true rfl) (Nat.le_of_ble_eq_true rfl) (Nat.le_of_ble_eq_true rfl) (Nat.le_of_ble_eq_true rfl) ?_
          refine J_iincv (y := 1) (v := 2) dX7_comes_59 rfl rfl rfl ?_
          refine J_goto (tgt := 46) dX7_comes_62 (by decide) ?_
          refine J_iload_n dX7_comes_46 rfl ?_
          refine J_bipush (12) dX7_comes_47 rfl ?_
          refine J_icmp_ge (tgt := 65) dX7_comes_49 (by decide) (fun h5 => ?_) (fun h5 => ?_)
          · skip
            exact absurd h5 (by decide)
          · skip
            refine J_aload_n dX7_comes_52 rfl rfl ?_
            refine J_iload_n dX7_comes_53 rfl ?_
            refine J_iload_n dX7_comes_54 rfl ?_
            refine J_iconst (0) dX7_comes_55 rfl ?_
            refine J_cV3 (mc := mX7_lays) hM.1 (by decide) rfl dX7_comes_56 mlX7_52 okX7_lays (kX7_lays S (fX7_lays (fX7_lays (jset I (o + 1) ((0 : Int32).toNatClampNeg) ((I (o + 1) ((0 : Int32).toNatClampNeg)) + 1)) o (I (o + 1) ((0 : Int32).toNatClampNeg)) 0 0) o (I (o + 1) ((0 : Int32).toNatClampNeg)) 1 0) o (I (o + 1) ((0 : Int32).toNatClampNeg)) 2 0 hM (jofv (jcomesB hI h2) (k := 2) rfl (by decide))) (Nat.le_of_ble_eq_true rfl) (Nat.le_of_ble_eq_true rfl) (Nat.le_of_ble_eq_true rfl) (Nat.le_of_ble_eq_true rfl) ?_
            refine J_iincv (y := 1) (v := 3) dX7_comes_59 rfl rfl rfl ?_
            refine J_goto (tgt := 46) dX7_comes_62 (by decide) ?_
            refine J_iload_n dX7_comes_46 rfl ?_
            refine J_bipush (12) dX7_comes_47 rfl ?_
            refine J_icmp_ge (tgt := 65) dX7_comes_49 (by decide) (fun h6 => ?_) (fun h6 => ?_)
            · skip
              exact absurd h6 (by decide)
            · skip
              refine J_aload_n dX7_comes_52 rfl rfl ?_
              refine J_iload_n dX7_comes_53 rfl ?_
              refine J_iload_n dX7_comes_54 rfl ?_
              refine J_iconst (0) dX7_comes_55 rfl ?_
              refine J_cV3 (mc := mX7_lays) hM.1 (by decide) rfl dX7_comes_56 mlX7_52 okX7_lays (kX7_lays S (fX7_lays (fX7_lays (fX7_lays (jset I (o + 1) ((0 : Int32).toNatClampNeg) ((I (o + 1) ((0 : Int32).toNatClampNeg)) + 1)) o (I (o + 1) ((0 : Int32).toNatClampNeg)) 0 0) o (I (o + 1) ((0 : Int32).toNatClampNeg)) 1 0) o (I (o + 1) ((0 : Int32).toNatClampNeg)) 2 0) o (I (o + 1) ((0 : Int32).toNatClampNeg)) 3 0 hM (jofv (jcomesB hI h2) (k := 3) rfl (by decide))) (Nat.le_of_ble_eq_true rfl) (Nat.le_of_ble_eq_true rfl) (Nat.le_of_ble_eq_true rfl) (Nat.le_of_ble_eq_true rfl) ?_
              refine J_iincv (y := 1) (v := 4) dX7_comes_59 rfl rfl rfl ?_
              refine J_goto (tgt := 46) dX7_comes_62 (by decide) ?_
              refine J_iload_n dX7_comes_46 rfl ?_
              refine J_bipush (12) dX7_comes_47 rfl ?_
              refine J_icmp_ge (tgt := 65) dX7_comes_49 (by decide) (fun h7 => ?_) (fun h7 => ?_)
              · skip
                exact absurd h7 (by decide)
              · skip
                refine J_aload_n dX7_comes_52 rfl rfl ?_
                refine J_iload_n dX7_comes_53 rfl ?_
                refine J_iload_n dX7_comes_54 rfl ?_
                refine J_iconst (0) dX7_comes_55 rfl ?_
                refine J_cV3 (mc := mX7_lays) hM.1 (by decide) rfl dX7_comes_56 mlX7_52 okX7_lays (kX7_lays S (fX7_lays (fX7_lays (fX7_lays (fX7_lays (jset I (o + 1) ((0 : Int32).toNatClampNeg) ((I (o + 1) ((0 : Int32).toNatClampNeg)) + 1)) o (I (o + 1) ((0 : Int32).toNatClampNeg)) 0 0) o (I (o + 1) ((0 : Int32).toNatClampNeg)) 1 0) o (I (o + 1) ((0 : Int32).toNatClampNeg)) 2 0) o (I (o + 1) ((0 : Int32).toNatClampNeg)) 3 0) o (I (o + 1) ((0 : Int32).toNatClampNeg)) 4 0 hM (jofv (jcomesB hI h2) (k := 4) rfl (by decide))) (Nat.le_of_ble_eq_true rfl) (Nat.le_of_ble_eq_true rfl) (Nat.le_of_ble_eq_true rfl) (Nat.le_of_ble_eq_true rfl) ?_
                refine J_iincv (y := 1) (v := 5) dX7_comes_59 rfl rfl rfl ?_
                refine J_goto (tgt := 46) dX7_comes_62 (by decide) ?_
                refine J_iload_n dX7_comes_46 rfl ?_
                refine J_bipush (12) dX7_comes_47 rfl ?_
                refine J_icmp_ge (tgt := 65) dX7_comes_49 (by decide) (fun h8 => ?_) (fun h8 => ?_)
                · skip
                  exact absurd h8 (by decide)
                · skip
                  refine J_aload_n dX7_comes_52 rfl rfl ?_
                  refine J_iload_n dX7_comes_53 rfl ?_
                  refine J_iload_n dX7_comes_54 rfl ?_
                  refine J_iconst (0) dX7_comes_55 rfl ?_
                  refine J_cV3 (mc := mX7_lays) hM.1 (by decide) rfl dX7_comes_56 mlX7_52 okX7_lays (kX7_lays S (fX7_lays (fX7_lays (fX7_lays (fX7_lays (fX7_lays (jset I (o + 1) ((0 : Int32).toNatClampNeg) ((I (o + 1) ((0 : Int32).toNatClampNeg)) + 1)) o (I (o + 1) ((0 : Int32).toNatClampNeg)) 0 0) o (I (o + 1) ((0 : Int32).toNatClampNeg)) 1 0) o (I (o + 1) ((0 : Int32).toNatClampNeg)) 2 0) o (I (o + 1) ((0 : Int32).toNatClampNeg)) 3 0) o (I (o + 1) ((0 : Int32).toNatClampNeg)) 4 0) o (I (o + 1) ((0 : Int32).toNatClampNeg)) 5 0 hM (jofv (jcomesB hI h2) (k := 5) rfl (by decide))) (Nat.le_of_ble_eq_true rfl) (Nat.le_of_ble_eq_true rfl) (Nat.le_of_ble_eq_true rfl) (Nat.le_of_ble_eq_true rfl) ?_
                  refine J_iincv (y := 1) (v := 6) dX7_comes_59 rfl rfl rfl ?_
                  refine J_goto (tgt := 46) dX7_comes_62 (by decide) ?_
                  refine J_iload_n dX7_comes_46 rfl ?_
                  refine J_bipush (12) dX7_comes_47 rfl ?_
                  refine J_icmp_ge (tgt := 65) dX7_comes_49 (by decide) (fun h9 => ?_) (fun h9 => ?_)
                  · skip
                    exact absurd h9 (by decide)
                  · skip
                    refine J_aload_n dX7_comes_52 rfl rfl ?_
                    refine J_iload_n dX7_comes_53 rfl ?_
                    refine J_iload_n dX7_comes_54 rfl ?_
                    refine J_iconst (0) dX7_comes_55 rfl ?_
                    refine J_cV3 (mc := mX7_lays) hM.1 (by decide) rfl dX7_comes_56 mlX7_52 okX7_lays (kX7_lays S (fX7_lays (fX7_lays (fX7_lays (fX7_lays (fX7_lays (fX7_lays (jset I (o + 1) ((0 : Int32).toNatClampNeg) ((I (o + 1) ((0 : Int32).toNatClampNeg)) + 1)) o (I (o + 1) ((0 : Int32).toNatClampNeg)) 0 0) o (I (o + 1) ((0 : Int32).toNatClampNeg)) 1 0) o (I (o + 1) ((0 : Int32).toNatClampNeg)) 2 0) o (I (o + 1) ((0 : Int32).toNatClampNeg)) 3 0) o (I (o + 1) ((0 : Int32).toNatClampNeg)) 4 0) o (I (o + 1) ((0 : Int32).toNatClampNeg)) 5 0) o (I (o + 1) ((0 : Int32).toNatClampNeg)) 6 0 hM (jofv (jcomesB hI h2) (k := 6) rfl (by decide))) (Nat.le_of_ble_eq_true rfl) (Nat.le_of_ble_eq_true rfl) (Nat.le_of_ble_eq_true rfl) (Nat.le_of_ble_eq_true rfl) ?_
                    refine J_iincv (y := 1) (v := 7) dX7_comes_59 rfl rfl rfl ?_
                    refine J_goto (tgt := 46) dX7_comes_62 (by decide) ?_
                    refine J_iload_n dX7_comes_46 rfl ?_
                    refine J_bipush (12) dX7_comes_47 rfl ?_
                    refine J_icmp_ge (tgt := 65) dX7_comes_49 (by decide) (fun h10 => ?_) (fun h10 => ?_)
                    · skip
                      exact absurd h10 (by decide)
                    · skip
                      refine J_aload_n dX7_comes_52 rfl rfl ?_
                      refine J_iload_n dX7_comes_53 rfl ?_
                      refine J_iload_n dX7_comes_54 rfl ?_
                      refine J_iconst (0) dX7_comes_55 rfl ?_
                      refine J_cV3 (mc := mX7_lays) hM.1 (by decide) rfl dX7_comes_56 mlX7_52 okX7_lays (kX7_lays S (fX7_lays (fX7_lays (fX7_lays (fX7_lays (fX7_lays (fX7_lays (fX7_lays (jset I (o + 1) ((0 : Int32).toNatClampNeg) ((I (o + 1) ((0 : Int32).toNatClampNeg)) + 1)) o (I (o + 1) ((0 : Int32).toNatClampNeg)) 0 0) o (I (o + 1) ((0 : Int32).toNatClampNeg)) 1 0) o (I (o + 1) ((0 : Int32).toNatClampNeg)) 2 0) o (I (o + 1) ((0 : Int32).toNatClampNeg)) 3 0) o (I (o + 1) ((0 : Int32).toNatClampNeg)) 4 0) o (I (o + 1) ((0 : Int32).toNatClampNeg)) 5 0) o (I (o + 1) ((0 : Int32).toNatClampNeg)) 6 0) o (I (o + 1) ((0 : Int32).toNatClampNeg)) 7 0 hM (jofv (jcomesB hI h2) (k := 7) rfl (by decide))) (Nat.le_of_ble_eq_true rfl) (Nat.le_of_ble_eq_true rfl) (Nat.le_of_ble_eq_true rfl) (Nat.le_of_ble_eq_true rfl) ?_
                      refine J_iincv (y := 1) (v := 8) dX7_comes_59 rfl rfl rfl ?_
                      refine J_goto (tgt := 46) dX7_comes_62 (by decide) ?_
                      refine J_iload_n dX7_comes_46 rfl ?_
                      refine J_bipush (12) dX7_comes_47 rfl ?_
                      refine J_icmp_ge (tgt := 65) dX7_comes_49 (by decide) (fun h11 => ?_) (fun h11 => ?_)
                      · skip
                        exact absurd h11 (by decide)
                      · skip
                        refine J_aload_n dX7_comes_52 rfl rfl ?_
                        refine J_iload_n dX7_comes_53 rfl ?_
                        refine J_iload_n dX7_comes_54 rfl ?_
                        refine J_iconst (0) dX7_comes_55 rfl ?_
                        refine J_cV3 (mc := mX7_lays) hM.1 (by decide) rfl dX7_comes_56 mlX7_52 okX7_lays (kX7_lays S (fX7_lays (fX7_lays (fX7_lays (fX7_lays (fX7_lays (fX7_lays (fX7_lays (fX7_lays (jset I (o + 1) ((0 : Int32).toNatClampNeg) ((I (o + 1) ((0 : Int32).toNatClampNeg)) + 1)) o (I (o + 1) ((0 : Int32).toNatClampNeg)) 0 0) o (I (o + 1) ((0 : Int32).toNatClampNeg)) 1 0) o (I (o + 1) ((0 : Int32).toNatClampNeg)) 2 0) o (I (o + 1) ((0 : Int32).toNatClampNeg)) 3 0) o (I (o + 1) ((0 : Int32).toNatClampNeg)) 4 0) o (I (o + 1) ((0 : Int32).toNatClampNeg)) 5 0) o (I (o + 1) ((0 : Int32).toNatClampNeg)) 6 0) o (I (o + 1) ((0 : Int32).toNatClampNeg)) 7 0) o (I (o + 1) ((0 : Int32).toNatClampNeg)) 8 0 hM (jofv (jcomesB hI h2) (k := 8) rfl (by decide))) (Nat.le_of_ble_eq_true rfl) (Nat.le_of_ble_eq_true rfl) (Nat.le_of_ble_eq_true rfl) (Nat.le_of_ble_eq_true rfl) ?_
                        refine J_iincv (y := 1) (v := 9) dX7_comes_59 rfl rfl rfl ?_
                        refine J_goto (tgt := 46) dX7_comes_62 (by decide) ?_
                        refine J_iload_n dX7_comes_46 rfl ?_
                        refine J_bipush (12) dX7_comes_47 rfl ?_
                        refine J_icmp_ge (tgt := 65) dX7_comes_49 (by decide) (fun h12 => ?_) (fun h12 => ?_)
                        · skip
                          exact absurd h12 (by decide)
                        · skip
                          refine J_aload_n dX7_comes_52 rfl rfl ?_
                          refine J_iload_n dX7_comes_53 rfl ?_
                          refine J_iload_n dX7_comes_54 rfl ?_
                          refine J_iconst (0) dX7_comes_55 rfl ?_
                          refine J_cV3 (mc := mX7_lays) hM.1 (by decide) rfl dX7_comes_56 mlX7_52 okX7_lays (kX7_lays S (fX7_lays (fX7_lays (fX7_lays (fX7_lays (fX7_lays (fX7_lays (fX7_lays (fX7_lays (fX7_lays (jset I (o + 1) ((0 : Int32).toNatClampNeg) ((I (o + 1) ((0 : Int32).toNatClampNeg)) + 1)) o (I (o + 1) ((0 : Int32).toNatClampNeg)) 0 0) o (I (o + 1) ((0 : Int32).toNatClampNeg)) 1 0) o (I (o + 1) ((0 : Int32).toNatClampNeg)) 2 0) o (I (o + 1) ((0 : Int32).toNatClampNeg)) 3 0) o (I (o + 1) ((0 : Int32).toNatClampNeg)) 4 0) o (I (o + 1) ((0 : Int32).toNatClampNeg)) 5 0) o (I (o + 1) ((0 : Int32).toNatClampNeg)) 6 0) o (I (o + 1) ((0 : Int32).toNatClampNeg)) 7 0) o (I (o + 1) ((0 : Int32).toNatClampNeg)) 8 0) o (I (o + 1) ((0 : Int32).toNatClampNeg)) 9 0 hM (jofv (jcomesB hI h2) (k := 9) rfl (by decide))) (Nat.le_of_ble_eq_true rfl) (Nat.le_of_ble_eq_true rfl) (Nat.le_of_ble_eq_true rfl) (Nat.le_of_ble_eq_true rfl) ?_
                          refine J_iincv (y := 1) (v := 10) dX7_comes_59 rfl rfl rfl ?_
                          refine J_goto (tgt := 46) dX7_comes_62 (by decide) ?_
                          refine J_iload_n dX7_comes_46 rfl ?_
                          refine J_bipush (12) dX7_comes_47 rfl ?_
                          refine J_icmp_ge (tgt := 65) dX7_comes_49 (by decide) (fun h13 => ?_) (fun h13 => ?_)
                          · skip
                            exact absurd h13 (by decide)
                          · skip
                            refine J_aload_n dX7_comes_52 rfl rfl ?_
                            refine J_iload_n dX7_comes_53 rfl ?_
                            refine J_iload_n dX7_comes_54 rfl ?_
                            refine J_iconst (0) dX7_comes_55 rfl ?_
                            refine J_cV3 (mc := mX7_lays) hM.1 (by decide) rfl dX7_comes_56 mlX7_52 okX7_lays (kX7_lays S (fX7_lays (fX7_lays (fX7_lays (fX7_lays (fX7_lays (fX7_lays (fX7_lays (fX7_lays (fX7_lays (fX7_lays (jset I (o + 1) ((0 : Int32).toNatClampNeg) ((I (o + 1) ((0 : Int32).toNatClampNeg)) + 1)) o (I (o + 1) ((0 : Int32).toNatClampNeg)) 0 0) o (I (o + 1) ((0 : Int32).toNatClampNeg)) 1 0) o (I (o + 1) ((0 : Int32).toNatClampNeg)) 2 0) o (I (o + 1) ((0 : Int32).toNatClampNeg)) 3 0) o (I (o + 1) ((0 : Int32).toNatClampNeg)) 4 0) o (I (o + 1) ((0 : Int32).toNatClampNeg)) 5 0) o (I (o + 1) ((0 : Int32).toNatClampNeg)) 6 0) o (I (o + 1) ((0 : Int32).toNatClampNeg)) 7 0) o (I (o + 1) ((0 : Int32).toNatClampNeg)) 8 0) o (I (o + 1) ((0 : Int32).toNatClampNeg)) 9 0) o (I (o + 1) ((0 : Int32).toNatClampNeg)) 10 0 hM (jofv (jcomesB hI h2) (k := 10) rfl (by decide))) (Nat.le_of_ble_eq_true rfl) (Nat.le_of_ble_eq_true rfl) (Nat.le_of_ble_eq_true rfl) (Nat.le_of_ble_eq_true rfl) ?_
                            refine J_iincv (y := 1) (v := 11) dX7_comes_59 rfl rfl rfl ?_
                            refine J_goto (tgt := 46) dX7_comes_62 (by decide) ?_
                            refine J_iload_n dX7_comes_46 rfl ?_
                            refine J_bipush (12) dX7_comes_47 rfl ?_
                            refine J_icmp_ge (tgt := 65) dX7_comes_49 (by decide) (fun h14 => ?_) (fun h14 => ?_)
                            · skip
                              exact absurd h14 (by decide)
                            · skip
                              refine J_aload_n dX7_comes_52 rfl rfl ?_
                              refine J_iload_n dX7_comes_53 rfl ?_
                              refine J_iload_n dX7_comes_54 rfl ?_
                              refine J_iconst (0) dX7_comes_55 rfl ?_
                              refine J_cV3 (mc := mX7_lays) hM.1 (by decide) rfl dX7_comes_56 mlX7_52 okX7_lays (kX7_lays S (fX7_lays (fX7_lays (fX7_lays (fX7_lays (fX7_lays (fX7_lays (fX7_lays (fX7_lays (fX7_lays (fX7_lays (fX7_lays (jset I (o + 1) ((0 : Int32).toNatClampNeg) ((I (o + 1) ((0 : Int32).toNatClampNeg)) + 1)) o (I (o + 1) ((0 : Int32).toNatClampNeg)) 0 0) o (I (o + 1) ((0 : Int32).toNatClampNeg)) 1 0) o (I (o + 1) ((0 : Int32).toNatClampNeg)) 2 0) o (I (o + 1) ((0 : Int32).toNatClampNeg)) 3 0) o (I (o + 1) ((0 : Int32).toNatClampNeg)) 4 0) o (I (o + 1) ((0 : Int32).toNatClampNeg)) 5 0) o (I (o + 1) ((0 : Int32).toNatClampNeg)) 6 0) o (I (o + 1) ((0 : Int32).toNatClampNeg)) 7 0) o (I (o + 1) ((0 : Int32).toNatClampNeg)) 8 0) o (I (o + 1) ((0 : Int32).toNatClampNeg)) 9 0) o (I (o + 1) ((0 : Int32).toNatClampNeg)) 10 0) o (I (o + 1) ((0 : Int32).toNatClampNeg)) 11 0 hM (jofv (jcomesB hI h2) (k := 11) rfl (by decide))) (Nat.le_of_ble_eq_true rfl) (Nat.le_of_ble_eq_true rfl) (Nat.le_of_ble_eq_true rfl) (Nat.le_of_ble_eq_true rfl) ?_
                              refine J_iincv (y := 1) (v := 12) dX7_comes_59 rfl rfl rfl ?_
                              refine J_goto (tgt := 46) dX7_comes_62 (by decide) ?_
                              refine J_iload_n dX7_comes_46 rfl ?_
                              refine J_bipush (12) dX7_comes_47 rfl ?_
                              refine J_icmp_ge (tgt := 65) dX7_comes_49 (by decide) (fun h15 => ?_) (fun h15 => ?_)
                              · skip
                                refine J_aload_n dX7_comes_65 rfl rfl ?_
                                refine J_iload_n dX7_comes_66 rfl ?_
                                refine J_iconst (0) dX7_comes_67 rfl ?_
                                refine J_iload_n dX7_comes_68 rfl ?_
                                refine J_cV3 (mc := mX7_lays) hM.1 (by decide) rfl dX7_comes_69 mlX7_52 okX7_lays (kX7_lays S (fX7_lays (fX7_lays (fX7_lays (fX7_lays (fX7_lays (fX7_lays (fX7_lays (fX7_lays (fX7_lays (fX7_lays (fX7_lays (fX7_lays (jset I (o + 1) ((0 : Int32).toNatClampNeg) ((I (o + 1) ((0 : Int32).toNatClampNeg)) + 1)) o (I (o + 1) ((0 : Int32).toNatClampNeg)) 0 0) o (I (o + 1) ((0 : Int32).toNatClampNeg)) 1 0) o (I (o + 1) ((0 : Int32).toNatClampNeg)) 2 0) o (I (o + 1) ((0 : Int32).toNatClampNeg)) 3 0) o (I (o + 1) ((0 : Int32).toNatClampNeg)) 4 0) o (I (o + 1) ((0 : Int32).toNatClampNeg)) 5 0) o (I (o + 1) ((0 : Int32).toNatClampNeg)) 6 0) o (I (o + 1) ((0 : Int32).toNatClampNeg)) 7 0) o (I (o + 1) ((0 : Int32).toNatClampNeg)) 8 0) o (I (o + 1) ((0 : Int32).toNatClampNeg)) 9 0) o (I (o + 1) ((0 : Int32).toNatClampNeg)) 10 0) o (I (o + 1) ((0 : Int32).toNatClampNeg)) 11 0) o (I (o + 1) ((0 : Int32).toNatClampNeg)) 0 x hM (jofv (jcomesB hI h2) (k := 0) rfl (by decide))) (Nat.le_of_ble_eq_true rfl) (Nat.le_of_ble_eq_true rfl) (Nat.le_of_ble_eq_true rfl) (Nat.le_of_ble_eq_true rfl) ?_
                                refine J_aload_n dX7_comes_72 rfl rfl ?_
                                refine J_iload_n dX7_comes_73 rfl ?_
                                refine J_iconst (1) dX7_comes_74 rfl ?_
                                refine J_iload_n dX7_comes_75 rfl ?_
                                refine J_cV3 (mc := mX7_lays) hM.1 (by decide) rfl dX7_comes_76 mlX7_52 okX7_lays (kX7_lays S (fX7_lays (fX7_lays (fX7_lays (fX7_lays (fX7_lays (fX7_lays (fX7_lays (fX7_lays (fX7_lays (fX7_lays (fX7_lays (fX7_lays (fX7_lays (jset I (o + 1) ((0 : Int32).toNatClampNeg) ((I (o + 1) ((0 : Int32).toNatClampNeg)) + 1)) o (I (o + 1) ((0 : Int32).toNatClampNeg)) 0 0) o (I (o + 1) ((0 : Int32).toNatClampNeg)) 1 0) o (I (o + 1) ((0 : Int32).toNatClampNeg)) 2 0) o (I (o + 1) ((0 : Int32).toNatClampNeg)) 3 0) o (I (o + 1) ((0 : Int32).toNatClampNeg)) 4 0) o (I (o + 1) ((0 : Int32).toNatClampNeg)) 5 0) o (I (o + 1) ((0 : Int32).toNatClampNeg)) 6 0) o (I (o + 1) ((0 : Int32).toNatClampNeg)) 7 0) o (I (o + 1) ((0 : Int32).toNatClampNeg)) 8 0) o (I (o + 1) ((0 : Int32).toNatClampNeg)) 9 0) o (I (o + 1) ((0 : Int32).toNatClampNeg)) 10 0) o (I (o + 1) ((0 : Int32).toNatClampNeg)) 11 0) o (I (o + 1) ((0 : Int32).toNatClampNeg)) 0 x) o (I (o + 1) ((0 : Int32).toNatClampNeg)) 1 x hM (jofv (jcomesB hI h2) (k := 1) rfl (by decide))) (Nat.le_of_ble_eq_true rfl) (Nat.le_of_ble_eq_true rfl) (Nat.le_of_ble_eq_true rfl) (Nat.le_of_ble_eq_true rfl) ?_
                                refine J_aload_n dX7_comes_79 rfl rfl ?_
                                refine J_iload_n dX7_comes_80 rfl ?_
                                refine J_iconst (4) dX7_comes_81 rfl ?_
                                refine J_iconst (1) dX7_comes_82 rfl ?_
                                refine J_cV3 (mc := mX7_lays) hM.1 (by decide) rfl dX7_comes_83 mlX7_52 okX7_lays (kX7_lays S (fX7_lays (fX7_lays (fX7_lays (fX7_lays (fX7_lays (fX7_lays (fX7_lays (fX7_lays (fX7_lays (fX7_lays (fX7_lays (fX7_lays (fX7_lays (fX7_lays (jset I (o + 1) ((0 : Int32).toNatClampNeg) ((I (o + 1) ((0 : Int32).toNatClampNeg)) + 1)) o (I (o + 1) ((0 : Int32).toNatClampNeg)) 0 0) o (I (o + 1) ((0 : Int32).toNatClampNeg)) 1 0) o (I (o + 1) ((0 : Int32).toNatClampNeg)) 2 0) o (I (o + 1) ((0 : Int32).toNatClampNeg)) 3 0) o (I (o + 1) ((0 : Int32).toNatClampNeg)) 4 0) o (I (o + 1) ((0 : Int32).toNatClampNeg)) 5 0) o (I (o + 1) ((0 : Int32).toNatClampNeg)) 6 0) o (I (o + 1) ((0 : Int32).toNatClampNeg)) 7 0) o (I (o + 1) ((0 : Int32).toNatClampNeg)) 8 0) o (I (o + 1) ((0 : Int32).toNatClampNeg)) 9 0) o (I (o + 1) ((0 : Int32).toNatClampNeg)) 10 0) o (I (o + 1) ((0 : Int32).toNatClampNeg)) 11 0) o (I (o + 1) ((0 : Int32).toNatClampNeg)) 0 x) o (I (o + 1) ((0 : Int32).toNatClampNeg)) 1 x) o (I (o + 1) ((0 : Int32).toNatClampNeg)) 4 1 hM (jofv (jcomesB hI h2) (k := 4) rfl (by decide))) (Nat.le_of_ble_eq_true rfl) (Nat.le_of_ble_eq_true rfl) (Nat.le_of_ble_eq_true rfl) (Nat.le_of_ble_eq_true rfl) ?_
                                refine J_aload_n dX7_comes_86 rfl rfl ?_
                                refine J_iload_n dX7_comes_87 rfl ?_
                                refine J_bipush (7) dX7_comes_88 rfl ?_
                                refine J_iconst (-1) dX7_comes_90 rfl ?_
                                refine J_cV3 (mc := mX7_lays) hM.1 (by decide) rfl dX7_comes_91 mlX7_52 okX7_lays (kX7_lays S (fX7_lays (fX7_lays (fX7_lays (fX7_lays (fX7_lays (fX7_lays (fX7_lays (fX7_lays (fX7_lays (fX7_lays (fX7_lays (fX7_lays (fX7_lays (fX7_lays (fX7_lays (jset I (o + 1) ((0 : Int32).toNatClampNeg) ((I (o + 1) ((0 : Int32).toNatClampNeg)) + 1)) o (I (o + 1) ((0 : Int32).toNatClampNeg)) 0 0) o (I (o + 1) ((0 : Int32).toNatClampNeg)) 1 0) o (I (o + 1) ((0 : Int32).toNatClampNeg)) 2 0) o (I (o + 1) ((0 : Int32).toNatClampNeg)) 3 0) o (I (o + 1) ((0 : Int32).toNatClampNeg)) 4 0) o (I (o + 1) ((0 : Int32).toNatClampNeg)) 5 0) o (I (o + 1) ((0 : Int32).toNatClampNeg)) 6 0) o (I (o + 1) ((0 : Int32).toNatClampNeg)) 7 0) o (I (o + 1) ((0 : Int32).toNatClampNeg)) 8 0) o (I (o + 1) ((0 : Int32).toNatClampNeg)) 9 0) o (I (o + 1) ((0 : Int32).toNatClampNeg)) 10 0) o (I (o + 1) ((0 : Int32).toNatClampNeg)) 11 0) o (I (o + 1) ((0 : Int32).toNatClampNeg)) 0 x) o (I (o + 1) ((0 : Int32).toNatClampNeg)) 1 x) o (I (o + 1) ((0 : Int32).toNatClampNeg)) 4 1) o (I (o + 1) ((0 : Int32).toNatClampNeg)) 7 (-1) hM (jofv (jcomesB hI h2) (k := 7) rfl (by decide))) (Nat.le_of_ble_eq_true rfl) (Nat.le_of_ble_eq_true rfl) (Nat.le_of_ble_eq_true rfl) (Nat.le_of_ble_eq_true rfl) ?_
                                refine J_aload_n dX7_comes_94 rfl rfl ?_
                                refine J_iload_n dX7_comes_95 rfl ?_
                                refine J_bipush (9) dX7_comes_96 rfl ?_
                                refine J_iconst (-1) dX7_comes_98 rfl ?_
                                refine J_cV3 (mc := mX7_lays) hM.1 (by decide) rfl dX7_comes_99 mlX7_52 okX7_lays (kX7_lays S (fX7_lays (fX7_lays (fX7_lays (fX7_lays (fX7_lays (fX7_lays (fX7_lays (fX7_lays (fX7_lays (fX7_lays (fX7_lays (fX7_lays (fX7_lays (fX7_lays (fX7_lays (fX7_lays (jset I (o + 1) ((0 : Int32).toNatClampNeg) ((I (o + 1) ((0 : Int32).toNatClampNeg)) + 1)) o (I (o + 1) ((0 : Int32).toNatClampNeg)) 0 0) o (I (o + 1) ((0 : Int32).toNatClampNeg)) 1 0) o (I (o + 1) ((0 : Int32).toNatClampNeg)) 2 0) o (I (o + 1) ((0 : Int32).toNatClampNeg)) 3 0) o (I (o + 1) ((0 : Int32).toNatClampNeg)) 4 0) o (I (o + 1) ((0 : Int32).toNatClampNeg)) 5 0) o (I (o + 1) ((0 : Int32).toNatClampNeg)) 6 0) o (I (o + 1) ((0 : Int32).toNatClampNeg)) 7 0) o (I (o + 1) ((0 : Int32).toNatClampNeg)) 8 0) o (I (o + 1) ((0 : Int32).toNatClampNeg)) 9 0) o (I (o + 1) ((0 : Int32).toNatClampNeg)) 10 0) o (I (o + 1) ((0 : Int32).toNatClampNeg)) 11 0) o (I (o + 1) ((0 : Int32).toNatClampNeg)) 0 x) o (I (o + 1) ((0 : Int32).toNatClampNeg)) 1 x) o (I (o + 1) ((0 : Int32).toNatClampNeg)) 4 1) o (I (o + 1) ((0 : Int32).toNatClampNeg)) 7 (-1)) o (I (o + 1) ((0 : Int32).toNatClampNeg)) 9 (-1) hM (jofv (jcomesB hI h2) (k := 9) rfl (by decide))) (Nat.le_of_ble_eq_true rfl) (Nat.le_of_ble_eq_true rfl) (Nat.le_of_ble_eq_true rfl) (Nat.le_of_ble_eq_true rfl) ?_
                                refine J_iload_n dX7_comes_102 rfl ?_
                                exact J_iret (ty := .int) hR dX7_comes_103 rfl rfl (Nat.le_of_ble_eq_true rfl) (Nat.le_of_ble_eq_true rfl) (jRes_f (by first | (simp only [fX7_comes, if_neg h1, if_neg h2]; done) | rfl | (simp only [fX7_comes, if_neg h1, if_neg h2]; rfl)))
                              · skip
                                exact absurd h15 (by decide)
    · skip
      refine J_ldc (-2000000003) dX7_comes_24 jw_761 ?_
      exact J_iret (ty := .int) hR dX7_comes_26 rfl rfl (Nat.le_of_ble_eq_true rfl) (Nat.le_of_ble_eq_true rfl) (jRes_f (by first | (simp only [fX7_comes, if_neg h1, if_pos h2]; done) | rfl | (simp only [fX7_comes, if_neg h1, if_pos h2]; rfl)))
  · skip
    refine J_ldc (-2000000001) dX7_comes_10 jw_760 ?_
    exact J_iret (ty := .int) hR dX7_comes_12 rfl rfl (Nat.le_of_ble_eq_true rfl) (Nat.le_of_ble_eq_true rfl) (jRes_f (by first | (simp only [fX7_comes, if_pos h1]; done) | rfl | (simp only [fX7_comes, if_pos h1]; rfl)))
def fX7_inspects (I : jI) (o : Nat) (x : Int32) (y : Int32) : Int32 × jI :=
  if (fX7_isBoiler I o x) = 0 then
    ((-2000000001), I)
  else
    if (fX7_isInspector I o y) = 0 then
      ((-2000000001), I)
    else
      if (fX7_whyNotInspected I o x y) ≤ 0 then
        if (fX7_pressureBy I o x (fX7_by I o y 0)) = 0 then
          ((fX7_pressureBy I o x (fX7_by I o y 0)), (fX7_lays (fX7_lays (fX7_lays (fX7_lays (jset (fX7_counts (fX7_counts (fX7_pays I o (fX7_by I o y 0) (I (o + 1) ((9 : Int32).toNatClampNeg))) o y 2) o y 3) (o + 1) ((5 : Int32).toNatClampNeg) (((fX7_counts (fX7_counts (fX7_pays I o (fX7_by I o y 0) (I (o + 1) ((9 : Int32).toNatClampNeg))) o y 2) o y 3) (o + 1) ((5 : Int32).toNatClampNeg)) + 1)) o x 9 (-1)) o x 10 (fX7_pressureBy I o x (fX7_by I o y 0))) o x 11 (fX7_lastBy (fX7_lays (fX7_lays (jset (fX7_counts (fX7_counts (fX7_pays I o (fX7_by I o y 0) (I (o + 1) ((9 : Int32).toNatClampNeg))) o y 2) o y 3) (o + 1) ((5 : Int32).toNatClampNeg) (((fX7_counts (fX7_counts (fX7_pays I o (fX7_by I o y 0) (I (o + 1) ((9 : Int32).toNatClampNeg))) o y 2) o y 3) (o + 1) ((5 : Int32).toNatClampNeg)) + 1)) o x 9 (-1)) o x 10 (fX7_pressureBy I o x (fX7_by I o y 0))) o x (fX7_by I o y 0))) o x 6 1))
        else
          ((fX7_pressureBy I o x (fX7_by I o y 0)), (jset (fX7_counts (fX7_lays (fX7_lays (fX7_lays (jset (fX7_counts (fX7_counts (fX7_pays I o (fX7_by I o y 0) (I (o + 1) ((9 : Int32).toNatClampNeg))) o y 2) o y 3) (o + 1) ((5 : Int32).toNatClampNeg) (((fX7_counts (fX7_counts (fX7_pays I o (fX7_by I o y 0) (I (o + 1) ((9 : Int32).toNatClampNeg))) o y 2) o y 3) (o + 1) ((5 : Int32).toNatClampNeg)) + 1)) o x 9 (fX7_by I o y 0)) o x 10 (fX7_pressureBy I o x (fX7_by I o y 0))) o x 11 (fX7_lastBy (fX7_lays (fX7_lays (jset (fX7_counts (fX7_counts (fX7_pays I o (fX7_by I o y 0) (I (o + 1) ((9 : Int32).toNatClampNeg))) o y 2) o y 3) (o + 1) ((5 : Int32).toNatClampNeg) (((fX7_counts (fX7_counts (fX7_pays I o (fX7_by I o y 0) (I (o + 1) ((9 : Int32).toNatClampNeg))) o y 2) o y 3) (o + 1) ((5 : Int32).toNatClampNeg)) + 1)) o x 9 (fX7_by I o y 0)) o x 10 (fX7_pressureBy I o x (fX7_by I o y 0))) o x (fX7_by I o y 0))) o y 4) (o + 1) ((6 : Int32).toNatClampNeg) (((fX7_counts (fX7_lays (fX7_lays (fX7_lays (jset (fX7_counts (fX7_counts (fX7_pays I o (fX7_by I o y 0) (I (o + 1) ((9 : Int32).toNatClampNeg))) o y 2) o y 3) (o + 1) ((5 : Int32).toNatClampNeg) (((fX7_counts (fX7_counts (fX7_pays I o (fX7_by I o y 0) (I (o + 1) ((9 : Int32).toNatClampNeg))) o y 2) o y 3) (o + 1) ((5 : Int32).toNatClampNeg)) + 1)) o x 9 (fX7_by I o y 0)) o x 10 (fX7_pressureBy I o x (fX7_by I o y 0))) o x 11 (fX7_lastBy (fX7_lays (fX7_lays (jset (fX7_counts (fX7_counts (fX7_pays I o (fX7_by I o y 0) (I (o + 1) ((9 : Int32).toNatClampNeg))) o y 2) o y 3) (o + 1) ((5 : Int32).toNatClampNeg) (((fX7_counts (fX7_counts (fX7_pays I o (fX7_by I o y 0) (I (o + 1) ((9 : Int32).toNatClampNeg))) o y 2) o y 3) (o + 1) ((5 : Int32).toNatClampNeg)) + 1)) o x 9 (fX7_by I o y 0)) o x 10 (fX7_pressureBy I o x (fX7_by I o y 0))) o x (fX7_by I o y 0))) o y 4) (o + 1) ((6 : Int32).toNatClampNeg)) + 1)))
      else
        ((-2000000002), I)
set_option maxRecDepth 100000 in
set_option maxHeartbeats 4000000 in
theorem kX7_inspects (S : jX) (I : jI) (o : Nat) (x : Int32) (y : Int32) (hM : jModel S o) (hI : jMInv I o) : jM (3, 0, 0) mX7_inspects [.ref o, .int x, .int y] S I (jRes (some (.int (fX7_inspects I o x y).1)) S (fX7_inspects I o x y).2) := by
  refine jM.of (ls := [.ref o, .int x, .int y, .long 0, .long 0]) (by decide) (Nat.le_of_ble_eq_true rfl) (by intro v hv; simp only [List.mem_cons, List.not_mem_nil, or_false] at hv; rcases hv with rfl | rfl | rfl <;> rfl) rfl (fun G hR => ?_)
  refine J_aload_n dX7_inspects_0 rfl rfl ?_
  refine J_iload_n dX7_inspects_1 rfl ?_
  refine J_cV1r (mc := mX7_isBoiler) hM.1 (by decide) rfl dX7_inspects_2 mlX7_67 okX7_isBoiler (kX7_isBoiler S I o x hM) (Nat.le_of_ble_eq_true rfl) (Nat.le_of_ble_eq_true rfl) (Nat.le_of_ble_eq_true rfl) (Nat.le_of_ble_eq_true rfl) ?_
  refine J_if_eq (tgt := 16) dX7_inspects_5 (by decide) (fun h1 => ?_) (fun h1 => ?_)
  · skip
    refine J_ldc (-2000000001) dX7_inspects_16 jw_760 ?_
    exact J_iret (ty := .int) hR dX7_inspects_18 rfl rfl (Nat.le_of_ble_eq_true rfl) (Nat.le_of_ble_eq_true rfl) (jRes_f (by first | (simp only [fX7_inspects, if_pos h1]; done) | rfl | (simp only [fX7_inspects, if_pos h1]; rfl)))
  · skip
    refine J_aload_n dX7_inspects_8 rfl rfl ?_
    refine J_iload_n dX7_inspects_9 rfl ?_
    refine J_cV1r (mc := mX7_isInspector) hM.1 (by decide) rfl dX7_inspects_10 mlX7_70 okX7_isInspector (kX7_isInspector S I o y hM) (Nat.le_of_ble_eq_true rfl) (Nat.le_of_ble_eq_true rfl) (Nat.le_of_ble_eq_true rfl) (Nat.le_of_ble_eq_true rfl) ?_
    refine J_if_ne (tgt := 19) dX7_inspects_13 (by decide) (fun h2 => ?_) (fun h2 => ?_)
    · skip
      refine J_aload_n dX7_inspects_19 rfl rfl ?_
      refine J_iload_n dX7_inspects_20 rfl ?_
      refine J_iload_n dX7_inspects_21 rfl ?_
      refine J_cV2r (mc := mX7_whyNotInspected) hM.1 (by decide) rfl dX7_inspects_22 mlX7_73 okX7_whyNotInspected (kX7_whyNotInspected S I o x y hM (jisB hI h1) (jisI hI h2)) (Nat.le_of_ble_eq_true rfl) (Nat.le_of_ble_eq_true rfl) (Nat.le_of_ble_eq_true rfl) (Nat.le_of_ble_eq_true rfl) ?_
      refine J_if_le (tgt := 31) dX7_inspects_25 (by decide) (fun h3 => ?_) (fun h3 => ?_)
      · skip
        refine J_aload_n dX7_inspects_31 rfl rfl ?_
        refine J_iload_n dX7_inspects_32 rfl ?_
        refine J_iconst (0) dX7_inspects_33 rfl ?_
        refine J_cV2r (mc := mX7_by) hM.1 (by decide) rfl dX7_inspects_34 mlX7_49 okX7_by (kX7_by S I o y 0 hM (jbyv (jisI hI h2) (k := 0) rfl (by decide))) (Nat.le_of_ble_eq_true rfl) (Nat.le_of_ble_eq_true rfl) (Nat.le_of_ble_eq_true rfl) (Nat.le_of_ble_eq_true rfl) ?_
        refine J_istore_n dX7_inspects_37 (Nat.le_of_ble_eq_true rfl) ?_
        refine J_aload_n dX7_inspects_38 rfl rfl ?_
        refine J_iload_n dX7_inspects_39 rfl ?_
        refine J_iload_n dX7_inspects_40 rfl ?_
        refine J_cV2r (mc := mX7_pressureBy) hM.1 (by decide) rfl dX7_inspects_41 mlX7_77 okX7_pressureBy (kX7_pressureBy S I o x (fX7_by I o y 0) hM (jisB hI h1) (jv7 (jits hI (jisI hI h2)))) (Nat.le_of_ble_eq_true rfl) (Nat.le_of_ble_eq_true rfl) (Nat.le_of_ble_eq_true rfl) (Nat.le_of_ble_eq_true rfl) ?_
        refine J_istore dX7_inspects_44 (Nat.le_of_ble_eq_true rfl) ?_
        refine J_aload_n dX7_inspects_46 rfl rfl ?_
        refine J_iload_n dX7_inspects_47 rfl ?_
        refine J_aload_n dX7_inspects_48 rfl rfl ?_
        refine J_getR dX7_inspects_49 flX7_7 rfl hM.1 hM.r0 ?_
        refine J_bipush (9) dX7_inspects_52 rfl ?_
        refine J_iaload dX7_inspects_54 hM.a0 (by unfold vp_in; decide) ?_
        refine J_cV2 (mc := mX7_pays) hM.1 (by decide) rfl dX7_inspects_55 mlX7_80 okX7_pays (kX7_pays S I o (fX7_by I o y 0) (I (o + 1) ((9 : Int32).toNatClampNeg)) hM (jv11 (jits hI (jisI hI h2)))) (Nat.le_of_ble_eq_true rfl) (Nat.le_of_ble_eq_true rfl) (Nat.le_of_ble_eq_true rfl) (Nat.le_of_ble_eq_true rfl) ?_
        refine J_aload_n dX7_inspects_58 rfl rfl ?_
        refine J_iload_n dX7_inspects_59 rfl ?_
        refine J_iconst (2) dX7_inspects_60 rfl ?_
        refine J_cV2 (mc := mX7_counts) hM.1 (by decide) rfl dX7_inspects_61 mlX7_84 okX7_counts (kX7_counts S (fX7_pays I o (fX7_by I o y 0) (I (o + 1) ((9 : Int32).toNatClampNeg))) o y 2 hM (jbyv (jisI hI h2) (k := 2) rfl (by decide))) (Nat.le_of_ble_eq_true rfl) (Nat.le_of_ble_eq_true rfl) (Nat.le_of_ble_eq_true rfl) (Nat.le_of_ble_eq_true rfl) ?_
        refine J_aload_n dX7_inspects_64 rfl rfl ?_
        refine J_iload_n dX7_inspects_65 rfl ?_
        refine J_iconst (3) dX7_inspects_66 rfl ?_
        refine J_cV2 (mc := mX7_counts) hM.1 (by decide) rfl dX7_inspects_67 mlX7_84 okX7_counts (kX7_counts S (fX7_counts (fX7_pays I o (fX7_by I o y 0) (I (o + 1) ((9 : Int32).toNatClampNeg))) o y 2) o y 3 hM (jbyv (jisI hI h2) (k := 3) rfl (by decide))) (Nat.le_of_ble_eq_true rfl) (Nat.le_of_ble_eq_true rfl) (Nat.le_of_ble_eq_true rfl) (Nat.le_of_ble_eq_true rfl) ?_
        refine J_aload_n dX7_inspects_70 rfl rfl ?_
        refine J_getR dX7_inspects_71 flX7_7 rfl hM.1 hM.r0 ?_
        refine J_iconst (5) dX7_inspects_74 rfl ?_
        refine J_dup2 dX7_inspects_75 rfl rfl ?_
        refine J_iaload dX7_inspects_76 hM.a0 (by unfold vp_in; decide) ?_
        refine J_iconst (1) dX7_inspects_77 rfl ?_
        refine J_iadd dX7_inspects_78 ?_
        refine J_iastore dX7_inspects_79 hM.a0 (by unfold vp_in; decide) ?_
        refine J_aload_n dX7_inspects_80 rfl rfl ?_
        refine J_iload_n dX7_inspects_81 rfl ?_
        refine J_bipush (9) dX7_inspects_82 rfl ?_
        refine J_iload dX7_inspects_84 rfl ?_
        refine J_if_ne (tgt := 93) dX7_inspects_86 (by decide) (fun h4 => ?_) (fun h4 => ?_)
        · skip
          refine J_iload_n dX7_inspects_93 rfl ?_
          refine J_cV3 (mc := mX7_lays) hM.1 (by decide) rfl dX7_inspects_94 mlX7_52 okX7_lays (kX7_lays S (jset (fX7_counts (fX7_counts (fX7_pays I o (fX7_by I o y 0) (I (o + 1) ((9 : Int32).toNatClampNeg))) o y 2) o y 3) (o + 1) ((5 : Int32).toNatClampNeg) (((fX7_counts (fX7_counts (fX7_pays I o (fX7_by I o y 0) (I (o + 1) ((9 : Int32).toNatClampNeg))) o y 2) o y 3) (o + 1) ((5 : Int32).toNatClampNeg)) + 1)) o x 9 (fX7_by I o y 0) hM (jofv (jisB hI h1) (k := 9) rfl (by decide))) (Nat.le_of_ble_eq_true rfl) (Nat.le_of_ble_eq_true rfl) (Nat.le_of_ble_eq_true rfl) (Nat.le_of_ble_eq_true rfl) ?_
          refine J_aload_n dX7_inspects_97 rfl rfl ?_
          refine J_iload_n dX7_inspects_98 rfl ?_
          refine J_bipush (10) dX7_inspects_99 rfl ?_
          refine J_iload dX7_inspects_101 rfl ?_
          refine J_cV3 (mc := mX7_lays) hM.1 (by decide) rfl dX7_inspects_103 mlX7_52 okX7_lays (kX7_lays S (fX7_lays (jset (fX7_counts (fX7_counts (fX7_pays I o (fX7_by I o y 0) (I (o + 1) ((9 : Int32).toNatClampNeg))) o y 2) o y 3) (o + 1) ((5 : Int32).toNatClampNeg) (((fX7_counts (fX7_counts (fX7_pays I o (fX7_by I o y 0) (I (o + 1) ((9 : Int32).toNatClampNeg))) o y 2) o y 3) (o + 1) ((5 : Int32).toNatClampNeg)) + 1)) o x 9 (fX7_by I o y 0)) o x 10 (fX7_pressureBy I o x (fX7_by I o y 0)) hM (jofv (jisB hI h1) (k := 10) rfl (by decide))) (Nat.le_of_ble_eq_true rfl) (Nat.le_of_ble_eq_true rfl) (Nat.le_of_ble_eq_true rfl) (Nat.le_of_ble_eq_true rfl) ?_
          refine J_aload_n dX7_inspects_106 rfl rfl ?_
          refine J_iload_n dX7_inspects_107 rfl ?_
          refine J_bipush (11) dX7_inspects_108 rfl ?_
          refine J_aload_n dX7_inspects_110 rfl rfl ?_
          refine J_iload_n dX7_inspects_111 rfl ?_
          refine J_iload_n dX7_inspects_112 rfl ?_
          refine J_cV2r (mc := mX7_lastBy) hM.1 (by decide) rfl dX7_inspects_113 mlX7_87 okX7_lastBy (kX7_lastBy S (fX7_lays (fX7_lays (jset (fX7_counts (fX7_counts (fX7_pays I o (fX7_by I o y 0) (I (o + 1) ((9 : Int32).toNatClampNeg))) o y 2) o y 3) (o + 1) ((5 : Int32).toNatClampNeg) (((fX7_counts (fX7_counts (fX7_pays I o (fX7_by I o y 0) (I (o + 1) ((9 : Int32).toNatClampNeg))) o y 2) o y 3) (o + 1) ((5 : Int32).toNatClampNeg)) + 1)) o x 9 (fX7_by I o y 0)) o x 10 (fX7_pressureBy I o x (fX7_by I o y 0))) o x (fX7_by I o y 0) hM (jisB hI h1)) (Nat.le_of_ble_eq_true rfl) (Nat.le_of_ble_eq_true rfl) (Nat.le_of_ble_eq_true rfl) (Nat.le_of_ble_eq_true rfl) ?_
          refine J_cV3 (mc := mX7_lays) hM.1 (by decide) rfl dX7_inspects_116 mlX7_52 okX7_lays (kX7_lays S (fX7_lays (fX7_lays (jset (fX7_counts (fX7_counts (fX7_pays I o (fX7_by I o y 0) (I (o + 1) ((9 : Int32).toNatClampNeg))) o y 2) o y 3) (o + 1) ((5 : Int32).toNatClampNeg) (((fX7_counts (fX7_counts (fX7_pays I o (fX7_by I o y 0) (I (o + 1) ((9 : Int32).toNatClampNeg))) o y 2) o y 3) (o + 1) ((5 : Int32).toNatClampNeg)) + 1)) o x 9 (fX7_by I o y 0)) o x 10 (fX7_pressureBy I o x (fX7_by I o y 0))) o x 11 (fX7_lastBy (fX7_lays (fX7_lays (jset (fX7_counts (fX7_counts (fX7_pays I o (fX7_by I o y 0) (I (o + 1) ((9 : Int32).toNatClampNeg))) o y 2) o y 3) (o + 1) ((5 : Int32).toNatClampNeg) (((fX7_counts (fX7_counts (fX7_pays I o (fX7_by I o y 0) (I (o + 1) ((9 : Int32).toNatClampNeg))) o y 2) o y 3) (o + 1) ((5 : Int32).toNatClampNeg)) + 1)) o x 9 (fX7_by I o y 0)) o x 10 (fX7_pressureBy I o x (fX7_by I o y 0))) o x (fX7_by I o y 0)) hM (jofv (jisB hI h1) (k := 11) rfl (by decide))) (Nat.le_of_ble_eq_true rfl) (Nat.le_of_ble_eq_true rfl) (Nat.le_of_ble_eq_true rfl) (Nat.le_of_ble_eq_true rfl) ?_
          refine J_iload dX7_inspects_119 rfl ?_
          refine J_if_ne (tgt := 135) dX7_inspects_121 (by decide) (fun h5 => ?_) (fun h5 => ?_)
          · skip
            refine J_aload_n dX7_inspects_135 rfl rfl ?_
            refine J_iload_n dX7_inspects_136 rfl ?_
            refine J_iconst (4) dX7_inspects_137 rfl ?_
            refine J_cV2 (mc := mX7_counts) hM.1 (by decide) rfl dX7_inspects_138 mlX7_84 okX7_counts (kX7_counts S (fX7_lays (fX7_lays (fX7_lays (jset (fX7_counts (fX7_counts (fX7_pays I o (fX7_by I o y 0) (I (o + 1) ((9 : Int32).toNatClampNeg))) o y 2) o y 3) (o + 1) ((5 : Int32).toNatClampNeg) (((fX7_counts (fX7_counts (fX7_pays I o (fX7_by I o y 0) (I (o + 1) ((9 : Int32).toNatClampNeg))) o y 2) o y 3) (o + 1) ((5 : Int32).toNatClampNeg)) + 1)) o x 9 (fX7_by I o y 0)) o x 10 (fX7_pressureBy I o x (fX7_by I o y 0))) o x 11 (fX7_lastBy (fX7_lays (fX7_lays (jset (fX7_counts (fX7_counts (fX7_pays I o (fX7_by I o y 0) (I (o + 1) ((9 : Int32).toNatClampNeg))) o y 2) o y 3) (o + 1) ((5 : Int32).toNatClampNeg) (((fX7_counts (fX7_counts (fX7_pays I o (fX7_by I o y 0) (I (o + 1) ((9 : Int32).toNatClampNeg))) o y 2) o y 3) (o + 1) ((5 : Int32).toNatClampNeg)) + 1)) o x 9 (fX7_by I o y 0)) o x 10 (fX7_pressureBy I o x (fX7_by I o y 0))) o x (fX7_by I o y 0))) o y 4 hM (jbyv (jisI hI h2) (k := 4) rfl (by decide))) (Nat.le_of_ble_eq_true rfl) (Nat.le_of_ble_eq_true rfl) (Nat.le_of_ble_eq_true rfl) (Nat.le_of_ble_eq_true rfl) ?_
            refine J_aload_n dX7_inspects_141 rfl rfl ?_
            refine J_getR dX7_inspects_142 flX7_7 rfl hM.1 hM.r0 ?_
            refine J_bipush (6) dX7_inspects_145 rfl ?_
            refine J_dup2 dX7_inspects_147 rfl rfl ?_
            refine J_iaload dX7_inspects_148 hM.a0 (by unfold vp_in; decide) ?_
            refine J_iconst (1) dX7_inspects_149 rfl ?_
            refine J_iadd dX7_inspects_150 ?_
            refine J_iastore dX7_inspects_151 hM.a0 (by unfold vp_in; decide) ?_
            refine J_iload dX7_inspects_152 rfl ?_
            exact J_iret (ty := .int) hR dX7_inspects_154 rfl rfl (Nat.le_of_ble_eq_true rfl) (Nat.le_of_ble_eq_true rfl) (jRes_f (by first | (simp only [fX7_inspects, if_neg h1, if_neg h2, if_pos h3, if_neg h4]; done) | rfl | (simp only [fX7_inspects, if_neg h1, if_neg h2, if_pos h3, if_neg h4]; rfl)))
          · skip
            exact absurd h5 h4
        · skip
          refine J_iconst (-1) dX7_inspects_89 rfl ?_
          refine J_goto (tgt := 94) dX7_inspects_90 (by decide) ?_
          refine J_cV3 (mc := mX7_lays) hM.1 (by decide) rfl dX7_inspects_94 mlX7_52 okX7_lays (kX7_lays S (jset (fX7_counts (fX7_counts (fX7_pays I o (fX7_by I o y 0) (I (o + 1) ((9 : Int32).toNatClampNeg))) o y 2) o y 3) (o + 1) ((5 : Int32).toNatClampNeg) (((fX7_counts (fX7_counts (fX7_pays I o (fX7_by I o y 0) (I (o + 1) ((9 : Int32).toNatClampNeg))) o y 2) o y 3) (o + 1) ((5 : Int32).toNatClampNeg)) + 1)) o x 9 (-1) hM (jofv (jisB hI h1) (k := 9) rfl (by decide))) (Nat.le_of_ble_eq_true rfl) (Nat.le_of_ble_eq_true rfl) (Nat.le_of_ble_eq_true rfl) (Nat.le_of_ble_eq_true rfl) ?_
          refine J_aload_n dX7_inspects_97 rfl rfl ?_
          refine J_iload_n dX7_inspects_98 rfl ?_
          refine J_bipush (10) dX7_inspects_99 rfl ?_
          refine J_iload dX7_inspects_101 rfl ?_
          refine J_cV3 (mc := mX7_lays) hM.1 (by decide) rfl dX7_inspects_103 mlX7_52 okX7_lays (kX7_lays S (fX7_lays (jset (fX7_counts (fX7_counts (fX7_pays I o (fX7_by I o y 0) (I (o + 1) ((9 : Int32).toNatClampNeg))) o y 2) o y 3) (o + 1) ((5 : Int32).toNatClampNeg) (((fX7_counts (fX7_counts (fX7_pays I o (fX7_by I o y 0) (I (o + 1) ((9 : Int32).toNatClampNeg))) o y 2) o y 3) (o + 1) ((5 : Int32).toNatClampNeg)) + 1)) o x 9 (-1)) o x 10 (fX7_pressureBy I o x (fX7_by I o y 0)) hM (jofv (jisB hI h1) (k := 10) rfl (by decide))) (Nat.le_of_ble_eq_true rfl) (Nat.le_of_ble_eq_true rfl) (Nat.le_of_ble_eq_true rfl) (Nat.le_of_ble_eq_true rfl) ?_
          refine J_aload_n dX7_inspects_106 rfl rfl ?_
          refine J_iload_n dX7_inspects_107 rfl ?_
          refine J_bipush (11) dX7_inspects_108 rfl ?_
          refine J_aload_n dX7_inspects_110 rfl rfl ?_
          refine J_iload_n dX7_inspects_111 rfl ?_
          refine J_iload_n dX7_inspects_112 rfl ?_
          refine J_cV2r (mc := mX7_lastBy) hM.1 (by decide) rfl dX7_inspects_113 mlX7_87 okX7_lastBy (kX7_lastBy S (fX7_lays (fX7_lays (jset (fX7_counts (fX7_counts (fX7_pays I o (fX7_by I o y 0) (I (o + 1) ((9 : Int32).toNatClampNeg))) o y 2) o y 3) (o + 1) ((5 : Int32).toNatClampNeg) (((fX7_counts (fX7_counts (fX7_pays I o (fX7_by I o y 0) (I (o + 1) ((9 : Int32).toNatClampNeg))) o y 2) o y 3) (o + 1) ((5 : Int32).toNatClampNeg)) + 1)) o x 9 (-1)) o x 10 (fX7_pressureBy I o x (fX7_by I o y 0))) o x (fX7_by I o y 0) hM (jisB hI h1)) (Nat.le_of_ble_eq_true rfl) (Nat.le_of_ble_eq_true rfl) (Nat.le_of_ble_eq_true rfl) (Nat.le_of_ble_eq_true rfl) ?_
          refine J_cV3 (mc := mX7_lays) hM.1 (by decide) rfl dX7_inspects_116 mlX7_52 okX7_lays (kX7_lays S (fX7_lays (fX7_lays (jset (fX7_counts (fX7_counts (fX7_pays I o (fX7_by I o y 0) (I (o + 1) ((9 : Int32).toNatClampNeg))) o y 2) o y 3) (o + 1) ((5 : Int32).toNatClampNeg) (((fX7_counts (fX7_counts (fX7_pays I o (fX7_by I o y 0) (I (o + 1) ((9 : Int32).toNatClampNeg))) o y 2) o y 3) (o + 1) ((5 : Int32).toNatClampNeg)) + 1)) o x 9 (-1)) o x 10 (fX7_pressureBy I o x (fX7_by I o y 0))) o x 11 (fX7_lastBy (fX7_lays (fX7_lays (jset (fX7_counts (fX7_counts (fX7_pays I o (fX7_by I o y 0) (I (o + 1) ((9 : Int32).toNatClampNeg))) o y 2) o y 3) (o + 1) ((5 : Int32).toNatClampNeg) (((fX7_counts (fX7_counts (fX7_pays I o (fX7_by I o y 0) (I (o + 1) ((9 : Int32).toNatClampNeg))) o y 2) o y 3) (o + 1) ((5 : Int32).toNatClampNeg)) + 1)) o x 9 (-1)) o x 10 (fX7_pressureBy I o x (fX7_by I o y 0))) o x (fX7_by I o y 0)) hM (jofv (jisB hI h1) (k := 11) rfl (by decide))) (Nat.le_of_ble_eq_true rfl) (Nat.le_of_ble_eq_true rfl) (Nat.le_of_ble_eq_true rfl) (Nat.le_of_ble_eq_true rfl) ?_
          refine J_iload dX7_inspects_119 rfl ?_
          refine J_if_ne (tgt := 135) dX7_inspects_121 (by decide) (fun h6 => ?_) (fun h6 => ?_)
          · skip
            exact absurd h4 h6
          · skip
            refine J_aload_n dX7_inspects_124 rfl rfl ?_
            refine J_iload_n dX7_inspects_125 rfl ?_
            refine J_bipush (6) dX7_inspects_126 rfl ?_
            refine J_iconst (1) dX7_inspects_128 rfl ?_
            refine J_cV3 (mc := mX7_lays) hM.1 (by decide) rfl dX7_inspects_129 mlX7_52 okX7_lays (kX7_lays S (fX7_lays (fX7_lays (fX7_lays (jset (fX7_counts (fX7_counts (fX7_pays I o (fX7_by I o y 0) (I (o + 1) ((9 : Int32).toNatClampNeg))) o y 2) o y 3) (o + 1) ((5 : Int32).toNatClampNeg) (((fX7_counts (fX7_counts (fX7_pays I o (fX7_by I o y 0) (I (o + 1) ((9 : Int32).toNatClampNeg))) o y 2) o y 3) (o + 1) ((5 : Int32).toNatClampNeg)) + 1)) o x 9 (-1)) o x 10 (fX7_pressureBy I o x (fX7_by I o y 0))) o x 11 (fX7_lastBy (fX7_lays (fX7_lays (jset (fX7_counts (fX7_counts (fX7_pays I o (fX7_by I o y 0) (I (o + 1) ((9 : Int32).toNatClampNeg))) o y 2) o y 3) (o + 1) ((5 : Int32).toNatClampNeg) (((fX7_counts (fX7_counts (fX7_pays I o (fX7_by I o y 0) (I (o + 1) ((9 : Int32).toNatClampNeg))) o y 2) o y 3) (o + 1) ((5 : Int32).toNatClampNeg)) + 1)) o x 9 (-1)) o x 10 (fX7_pressureBy I o x (fX7_by I o y 0))) o x (fX7_by I o y 0))) o x 6 1 hM (jofv (jisB hI h1) (k := 6) rfl (by decide))) (Nat.le_of_ble_eq_true rfl) (Nat.le_of_ble_eq_true rfl) (Nat.le_of_ble_eq_true rfl) (Nat.le_of_ble_eq_true rfl) ?_
            refine J_goto (tgt := 152) dX7_inspects_132 (by decide) ?_
            refine J_iload dX7_inspects_152 rfl ?_
            exact J_iret (ty := .int) hR dX7_inspects_154 rfl rfl (Nat.le_of_ble_eq_true rfl) (Nat.le_of_ble_eq_true rfl) (jRes_f (by first | (simp only [fX7_inspects, if_neg h1, if_neg h2, if_pos h3, if_pos h4]; done) | rfl | (simp only [fX7_inspects, if_neg h1, if_neg h2, if_pos h3, if_pos h4]; rfl)))
      · skip
        refine J_ldc (-2000000002) dX7_inspects_28 jw_790 ?_
        exact J_iret (ty := .int) hR dX7_inspects_30 rfl rfl (Nat.le_of_ble_eq_true rfl) (Nat.le_of_ble_eq_true rfl) (jRes_f (by first | (simp only [fX7_inspects, if_neg h1, if_neg h2, if_neg h3]; done) | rfl | (simp only [fX7_inspects, if_neg h1, if_neg h2, if_neg h3]; rfl)))
    · skip
      refine J_ldc (-2000000001) dX7_inspects_16 jw_760 ?_
      exact J_iret (ty := .int) hR dX7_inspects_18 rfl rfl (Nat.le_of_ble_eq_true rfl) (Nat.le_of_ble_eq_true rfl) (jRes_f (by first | (simp only [fX7_inspects, if_neg h1, if_pos h2]; done) | rfl | (simp only [fX7_inspects, if_neg h1, if_pos h2]; rfl)))
def fX7_fires (I : jI) (o : Nat) (x : Int32) : Int32 × jI :=
  if (fX7_isBoiler I o x) = 0 then
    ((-2000000001), I)
  else
    if (fX7_whyNotFired I o x) ≤ 0 then
      ((((fX7_of (fX7_lays I o x 3 1) o x 11) - ((fX7_lays I o x 3 1) (o + 1) ((2 : Int32).toNatClampNeg))) + 1), (fX7_lays I o x 3 1))
    else
      ((-2000000002), I)
set_option maxRecDepth 100000 in
set_option maxHeartbeats 4000000 in
theorem kX7_fires (S : jX) (I : jI) (o : Nat) (x : Int32) (hM : jModel S o) (hI : jMInv I o) : jM (3, 0, 0) mX7_fires [.ref o, .int x] S I (jRes (some (.int (fX7_fires I o x).1)) S (fX7_fires I o x).2) := by
  refine jM.of (ls := [.ref o, .int x]) (by decide) (Nat.le_of_ble_eq_true rfl) (by intro v hv; simp only [List.mem_cons, List.not_mem_nil, or_false] at hv; rcases hv with rfl | rfl <;> rfl) rfl (fun G hR => ?_)
  refine J_aload_n dX7_fires_0 rfl rfl ?_
  refine J_iload_n dX7_fires_1 rfl ?_
  refine J_cV1r (mc := mX7_isBoiler) hM.1 (by decide) rfl dX7_fires_2 mlX7_67 okX7_isBoiler (kX7_isBoiler S I o x hM) (Nat.le_of_ble_eq_true rfl) (Nat.le_of_ble_eq_true rfl) (Nat.le_of_ble_eq_true rfl) (Nat.le_of_ble_eq_true rfl) ?_
  refine J_if_ne (tgt := 11) dX7_fires_5 (by decide) (fun h1 => ?_) (fun h1 => ?_)
  · skip
    refine J_aload_n dX7_fires_11 rfl rfl ?_
    refine J_iload_n dX7_fires_12 rfl ?_
    refine J_cV1r (mc := mX7_whyNotFired) hM.1 (by decide) rfl dX7_fires_13 mlX7_90 okX7_whyNotFired (kX7_whyNotFired S I o x hM (jisB hI h1)) (Nat.le_of_ble_eq_true rfl) (Nat.le_of_ble_eq_true rfl) (Nat.le_of_ble_eq_true rfl) (Nat.le_of_ble_eq_true rfl) ?_
    refine J_if_le (tgt := 22) dX7_fires_16 (by decide) (fun h2 => ?_) (fun h2 => ?_)
    · skip
      refine J_aload_n dX7_fires_22 rfl rfl ?_
      refine J_iload_n dX7_fires_23 rfl ?_
      refine J_iconst (3) dX7_fires_24 rfl ?_
      refine J_iconst (1) dX7_fires_25 rfl ?_
      refine J_cV3 (mc := mX7_lays) hM.1 (by decide) rfl dX7_fires_26 mlX7_52 okX7_lays (kX7_lays S I o x 3 1 hM (jofv (jisB hI h1) (k := 3) rfl (by decide))) (Nat.le_of_ble_eq_true rfl) (Nat.le_of_ble_eq_true rfl) (Nat.le_of_ble_eq_true rfl) (Nat.le_of_ble_eq_true rfl) ?_
      refine J_aload_n dX7_fires_29 rfl rfl ?_
      refine J_iload_n dX7_fires_30 rfl ?_
      refine J_bipush (11) dX7_fires_31 rfl ?_
      refine J_cV2r (mc := mX7_of) hM.1 (by decide) rfl dX7_fires_33 mlX7_34 okX7_of (kX7_of S (fX7_lays I o x 3 1) o x 11 hM (jofv (jisB hI h1) (k := 11) rfl (by decide))) (Nat.le_of_ble_eq_true rfl) (Nat.le_of_ble_eq_true rfl) (Nat.le_of_ble_eq_true rfl) (Nat.le_of_ble_eq_true rfl) ?_
      refine J_aload_n dX7_fires_36 rfl rfl ?_
      refine J_getR dX7_fires_37 flX7_7 rfl hM.1 hM.r0 ?_
      refine J_iconst (2) dX7_fires_40 rfl ?_
      refine J_iaload dX7_fires_41 hM.a0 (by unfold vp_in; decide) ?_
      refine J_isub dX7_fires_42 ?_
      refine J_iconst (1) dX7_fires_43 rfl ?_
      refine J_iadd dX7_fires_44 ?_
      exact J_iret (ty := .int) hR dX7_fires_45 rfl rfl (Nat.le_of_ble_eq_true rfl) (Nat.le_of_ble_eq_true rfl) (jRes_f (by first | (simp only [fX7_fires, if_neg h1, if_pos h2]; done) | rfl | (simp only [fX7_fires, if_neg h1, if_pos h2]; rfl)))
    · skip
      refine J_ldc (-2000000002) dX7_fires_19 jw_790 ?_
      exact J_iret (ty := .int) hR dX7_fires_21 rfl rfl (Nat.le_of_ble_eq_true rfl) (Nat.le_of_ble_eq_true rfl) (jRes_f (by first | (simp only [fX7_fires, if_neg h1, if_neg h2]; done) | rfl | (simp only [fX7_fires, if_neg h1, if_neg h2]; rfl)))
  · skip
    refine J_ldc (-2000000001) dX7_fires_8 jw_760 ?_
    exact J_iret (ty := .int) hR dX7_fires_10 rfl rfl (Nat.le_of_ble_eq_true rfl) (Nat.le_of_ble_eq_true rfl) (jRes_f (by first | (simp only [fX7_fires, if_pos h1]; done) | rfl | (simp only [fX7_fires, if_pos h1]; rfl)))
def fX7_puts (I : jI) (o : Nat) (x : Int32) : Int32 × jI :=
  if (fX7_isBoiler I o x) = 0 then
    ((-2000000001), I)
  else
    if (fX7_of I o x 3) = 1 then
      ((fX7_of (fX7_cools I o x) o x 2), (fX7_cools I o x))
    else
      ((-2000000002), I)
set_option maxRecDepth 100000 in
set_option maxHeartbeats 4000000 in
theorem kX7_puts (S : jX) (I : jI) (o : Nat) (x : Int32) (hM : jModel S o) (hI : jMInv I o) : jM (2, 0, 0) mX7_puts [.ref o, .int x] S I (jRes (some (.int (fX7_puts I o x).1)) S (fX7_puts I o x).2) := by
  refine jM.of (ls := [.ref o, .int x]) (by decide) (Nat.le_of_ble_eq_true rfl) (by intro v hv; simp only [List.mem_cons, List.not_mem_nil, or_false] at hv; rcases hv with rfl | rfl <;> rfl) rfl (fun G hR => ?_)
  refine J_aload_n dX7_puts_0 rfl rfl ?_
  refine J_iload_n dX7_puts_1 rfl ?_
  refine J_cV1r (mc := mX7_isBoiler) hM.1 (by decide) rfl dX7_puts_2 mlX7_67 okX7_isBoiler (kX7_isBoiler S I o x hM) (Nat.le_of_ble_eq_true rfl) (Nat.le_of_ble_eq_true rfl) (Nat.le_of_ble_eq_true rfl) (Nat.le_of_ble_eq_true rfl) ?_
  refine J_if_ne (tgt := 11) dX7_puts_5 (by decide) (fun h1 => ?_) (fun h1 => ?_)
  · skip
    refine J_aload_n dX7_puts_11 rfl rfl ?_
    refine J_iload_n dX7_puts_12 rfl ?_
    refine J_iconst (3) dX7_puts_13 rfl ?_
    refine J_cV2r (mc := mX7_of) hM.1 (by decide) rfl dX7_puts_14 mlX7_34 okX7_of (kX7_of S I o x 3 hM (jofv (jisB hI h1) (k := 3) rfl (by decide))) (Nat.le_of_ble_eq_true rfl) (Nat.le_of_ble_eq_true rfl) (Nat.le_of_ble_eq_true rfl) (Nat.le_of_ble_eq_true rfl) ?_
    refine J_iconst (1) dX7_puts_17 rfl ?_
    refine J_icmp_eq (tgt := 24) dX7_puts_18 (by decide) (fun h2 => ?_) (fun h2 => ?_)
    · skip
      refine J_aload_n dX7_puts_24 rfl rfl ?_
      refine J_iload_n dX7_puts_25 rfl ?_
      refine J_cV1 (mc := mX7_cools) hM.1 (by decide) rfl dX7_puts_26 mlX7_56 okX7_cools (kX7_cools S I o x hM (jisB hI h1)) (Nat.le_of_ble_eq_true rfl) (Nat.le_of_ble_eq_true rfl) (Nat.le_of_ble_eq_true rfl) (Nat.le_of_ble_eq_true rfl) ?_
      refine J_aload_n dX7_puts_29 rfl rfl ?_
      refine J_iload_n dX7_puts_30 rfl ?_
      refine J_iconst (2) dX7_puts_31 rfl ?_
      refine J_cV2r (mc := mX7_of) hM.1 (by decide) rfl dX7_puts_32 mlX7_34 okX7_of (kX7_of S (fX7_cools I o x) o x 2 hM (jofv (jisB hI h1) (k := 2) rfl (by decide))) (Nat.le_of_ble_eq_true rfl) (Nat.le_of_ble_eq_true rfl) (Nat.le_of_ble_eq_true rfl) (Nat.le_of_ble_eq_true rfl) ?_
      exact J_iret (ty := .int) hR dX7_puts_35 rfl rfl (Nat.le_of_ble_eq_true rfl) (Nat.le_of_ble_eq_true rfl) (jRes_f (by first | (simp only [fX7_puts, if_neg h1, if_pos h2]; done) | rfl | (simp only [fX7_puts, if_neg h1, if_pos h2]; rfl)))
    · skip
      refine J_ldc (-2000000002) dX7_puts_21 jw_790 ?_
      exact J_iret (ty := .int) hR dX7_puts_23 rfl rfl (Nat.le_of_ble_eq_true rfl) (Nat.le_of_ble_eq_true rfl) (jRes_f (by first | (simp only [fX7_puts, if_neg h1, if_neg h2]; done) | rfl | (simp only [fX7_puts, if_neg h1, if_neg h2]; rfl)))
  · skip
    refine J_ldc (-2000000001) dX7_puts_8 jw_760 ?_
    exact J_iret (ty := .int) hR dX7_puts_10 rfl rfl (Nat.le_of_ble_eq_true rfl) (Nat.le_of_ble_eq_true rfl) (jRes_f (by first | (simp only [fX7_puts, if_pos h1]; done) | rfl | (simp only [fX7_puts, if_pos h1]; rfl)))
def fX7_sends (I : jI) (o : Nat) (x : Int32) : Int32 × jI :=
  if (fX7_isBoiler I o x) = 0 then
    ((-2000000001), I)
  else
    if (fX7_of I o x 3) = 0 then
      ((((fX7_of I o x 2) / 10) + 1), (fX7_lays (fX7_lays (jset (fX7_pays I o 2 ((I (o + 1) ((10 : Int32).toNatClampNeg)) * (((fX7_of I o x 2) / 10) + 1))) (o + 1) ((4 : Int32).toNatClampNeg) (((fX7_pays I o 2 ((I (o + 1) ((10 : Int32).toNatClampNeg)) * (((fX7_of I o x 2) / 10) + 1))) (o + 1) ((4 : Int32).toNatClampNeg)) + (((fX7_of I o x 2) / 10) + 1))) o x 3 2) o x 5 (((fX7_lays (jset (fX7_pays I o 2 ((I (o + 1) ((10 : Int32).toNatClampNeg)) * (((fX7_of I o x 2) / 10) + 1))) (o + 1) ((4 : Int32).toNatClampNeg) (((fX7_pays I o 2 ((I (o + 1) ((10 : Int32).toNatClampNeg)) * (((fX7_of I o x 2) / 10) + 1))) (o + 1) ((4 : Int32).toNatClampNeg)) + (((fX7_of I o x 2) / 10) + 1))) o x 3 2) (o + 1) ((2 : Int32).toNatClampNeg)) + (((fX7_of I o x 2) / 10) + 1))))
    else
      ((-2000000002), I)
set_option maxRecDepth 100000 in
set_option maxHeartbeats 4000000 in
theorem kX7_sends (S : jX) (I : jI) (o : Nat) (x : Int32) (hM : jModel S o) (hI : jMInv I o) : jM (2, 0, 0) mX7_sends [.ref o, .int x] S I (jRes (some (.int (fX7_sends I o x).1)) S (fX7_sends I o x).2) := by
  refine jM.of (ls := [.ref o, .int x, .long 0]) (by decide) (Nat.le_of_ble_eq_true rfl) (by intro v hv; simp only [List.mem_cons, List.not_mem_nil, or_false] at hv; rcases hv with rfl | rfl <;> rfl) rfl (fun G hR => ?_)
  refine J_aload_n dX7_sends_0 rfl rfl ?_
  refine J_iload_n dX7_sends_1 rfl ?_
  refine J_cV1r (mc := mX7_isBoiler) hM.1 (by decide) rfl dX7_sends_2 mlX7_67 okX7_isBoiler (kX7_isBoiler S I o x hM) (Nat.le_of_ble_eq_true rfl) (Nat.le_of_ble_eq_true rfl) (Nat.le_of_ble_eq_true rfl) (Nat.le_of_ble_eq_true rfl) ?_
  refine J_if_ne (tgt := 11) dX7_sends_5 (by decide) (fun h1 => ?_) (fun h1 => ?_)
  · skip
    refine J_aload_n dX7_sends_11 rfl rfl ?_
    refine J_iload_n dX7_sends_12 rfl ?_
    refine J_iconst (3) dX7_sends_13 rfl ?_
    refine J_cV2r (mc := mX7_of) hM.1 (by decide) rfl dX7_sends_14 mlX7_34 okX7_of (kX7_of S I o x 3 hM (jofv (jisB hI h1) (k := 3) rfl (by decide))) (Nat.le_of_ble_eq_true rfl) (Nat.le_of_ble_eq_true rfl) (Nat.le_of_ble_eq_true rfl) (Nat.le_of_ble_eq_true rfl) ?_
    refine J_if_eq (tgt := 23) dX7_sends_17 (by decide) (fun h2 => ?_) (fun h2 => ?_)
    · skip
      refine J_aload_n dX7_sends_23 rfl rfl ?_
      refine J_iload_n dX7_sends_24 rfl ?_
      refine J_iconst (2) dX7_sends_25 rfl ?_
      refine J_cV2r (mc := mX7_of) hM.1 (by decide) rfl dX7_sends_26 mlX7_34 okX7_of (kX7_of S I o x 2 hM (jofv (jisB hI h1) (k := 2) rfl (by decide))) (Nat.le_of_ble_eq_true rfl) (Nat.le_of_ble_eq_true rfl) (Nat.le_of_ble_eq_true rfl) (Nat.le_of_ble_eq_true rfl) ?_
      refine J_bipush (10) dX7_sends_29 rfl ?_
      refine J_idiv dX7_sends_31 (by decide) ?_
      refine J_iconst (1) dX7_sends_32 rfl ?_
      refine J_iadd dX7_sends_33 ?_
      refine J_istore_n dX7_sends_34 (Nat.le_of_ble_eq_true rfl) ?_
      refine J_aload_n dX7_sends_35 rfl rfl ?_
      refine J_iconst (2) dX7_sends_36 rfl ?_
      refine J_aload_n dX7_sends_37 rfl rfl ?_
      refine J_getR dX7_sends_38 flX7_7 rfl hM.1 hM.r0 ?_
      refine J_bipush (10) dX7_sends_41 rfl ?_
      refine J_iaload dX7_sends_43 hM.a0 (by unfold vp_in; decide) ?_
      refine J_iload_n dX7_sends_44 rfl ?_
      refine J_imul dX7_sends_45 ?_
      refine J_cV2 (mc := mX7_pays) hM.1 (by decide) rfl dX7_sends_46 mlX7_80 okX7_pays (kX7_pays S I o 2 ((I (o + 1) ((10 : Int32).toNatClampNeg)) * (((fX7_of I o x 2) / 10) + 1)) hM (by unfold vp_in; decide)) (Nat.le_of_ble_eq_true rfl) (Nat.le_of_ble_eq_true rfl) (Nat.le_of_ble_eq_true rfl) (Nat.le_of_ble_eq_true rfl) ?_
      refine J_aload_n dX7_sends_49 rfl rfl ?_
      refine J_getR dX7_sends_50 flX7_7 rfl hM.1 hM.r0 ?_
      refine J_iconst (4) dX7_sends_53 rfl ?_
      refine J_dup2 dX7_sends_54 rfl rfl ?_
      refine J_iaload dX7_sends_55 hM.a0 (by unfold vp_in; decide) ?_
      refine J_iload_n dX7_sends_56 rfl ?_
      refine J_iadd dX7_sends_57 ?_
      refine J_iastore dX7_sends_58 hM.a0 (by unfold vp_in; decide) ?_
      refine J_aload_n dX7_sends_59 rfl rfl ?_
      refine J_iload_n dX7_sends_60 rfl ?_
      refine J_iconst (3) dX7_sends_61 rfl ?_
      refine J_iconst (2) dX7_sends_62 rfl ?_
      refine J_cV3 (mc := mX7_lays) hM.1 (by decide) rfl dX7_sends_63 mlX7_52 okX7_lays (kX7_lays S (jset (fX7_pays I o 2 ((I (o + 1) ((10 : Int32).toNatClampNeg)) * (((fX7_of I o x 2) / 10) + 1))) (o + 1) ((4 : Int32).toNatClampNeg) (((fX7_pays I o 2 ((I (o + 1) ((10 : Int32).toNatClampNeg)) * (((fX7_of I o x 2) / 10) + 1))) (o + 1) ((4 : Int32).toNatClampNeg)) + (((fX7_of I o x 2) / 10) + 1))) o x 3 2 hM (jofv (jisB hI h1) (k := 3) rfl (by decide))) (Nat.le_of_ble_eq_true rfl) (Nat.le_of_ble_eq_true rfl) (Nat.le_of_ble_eq_true rfl) (Nat.le_of_ble_eq_true rfl) ?_
      refine J_aload_n dX7_sends_66 rfl rfl ?_
      refine J_iload_n dX7_sends_67 rfl ?_
      refine J_iconst (5) dX7_sends_68 rfl ?_
      refine J_aload_n dX7_sends_69 rfl rfl ?_
      refine J_getR dX7_sends_70 flX7_7 rfl hM.1 hM.r0 ?_
      refine J_iconst (2) dX7_sends_73 rfl ?_
      refine J_iaload dX7_sends_74 hM.a0 (by unfold vp_in; decide) ?_
      refine J_iload_n dX7_sends_75 rfl ?_
      refine J_iadd dX7_sends_76 ?_
      refine J_cV3 (mc := mX7_lays) hM.1 (by decide) rfl dX7_sends_77 mlX7_52 okX7_lays (kX7_lays S (fX7_lays (jset (fX7_pays I o 2 ((I (o + 1) ((10 : Int32).toNatClampNeg)) * (((fX7_of I o x 2) / 10) + 1))) (o + 1) ((4 : Int32).toNatClampNeg) (((fX7_pays I o 2 ((I (o + 1) ((10 : Int32).toNatClampNeg)) * (((fX7_of I o x 2) / 10) + 1))) (o + 1) ((4 : Int32).toNatClampNeg)) + (((fX7_of I o x 2) / 10) + 1))) o x 3 2) o x 5 (((fX7_lays (jset (fX7_pays I o 2 ((I (o + 1) ((10 : Int32).toNatClampNeg)) * (((fX7_of I o x 2) / 10) + 1))) (o + 1) ((4 : Int32).toNatClampNeg) (((fX7_pays I o 2 ((I (o + 1) ((10 : Int32).toNatClampNeg)) * (((fX7_of I o x 2) / 10) + 1))) (o + 1) ((4 : Int32).toNatClampNeg)) + (((fX7_of I o x 2) / 10) + 1))) o x 3 2) (o + 1) ((2 : Int32).toNatClampNeg)) + (((fX7_of I o x 2) / 10) + 1)) hM (jofv (jisB hI h1) (k := 5) rfl (by decide))) (Nat.le_of_ble_eq_true rfl) (Nat.le_of_ble_eq_true rfl) (Nat.le_of_ble_eq_true rfl) (Nat.le_of_ble_eq_true rfl) ?_
      refine J_iload_n dX7_sends_80 rfl ?_
      exact J_iret (ty := .int) hR dX7_sends_81 rfl rfl (Nat.le_of_ble_eq_true rfl) (Nat.le_of_ble_eq_true rfl) (jRes_f (by first | (simp only [fX7_sends, if_neg h1, if_pos h2]; done) | rfl | (simp only [fX7_sends, if_neg h1, if_pos h2]; rfl)))
    · skip
      refine J_ldc (-2000000002) dX7_sends_20 jw_790 ?_
      exact J_iret (ty := .int) hR dX7_sends_22 rfl rfl (Nat.le_of_ble_eq_true rfl) (Nat.le_of_ble_eq_true rfl) (jRes_f (by first | (simp only [fX7_sends, if_neg h1, if_neg h2]; done) | rfl | (simp only [fX7_sends, if_neg h1, if_neg h2]; rfl)))
  · skip
    refine J_ldc (-2000000001) dX7_sends_8 jw_760 ?_
    exact J_iret (ty := .int) hR dX7_sends_10 rfl rfl (Nat.le_of_ble_eq_true rfl) (Nat.le_of_ble_eq_true rfl) (jRes_f (by first | (simp only [fX7_sends, if_pos h1]; done) | rfl | (simp only [fX7_sends, if_pos h1]; rfl)))
theorem jofv9 {I : jI} {b w : Int32} (hb : jB8 b) (h : ¬ fX7_in I w 0 9 = 0) : vp_in (15 + 12 * b + w) 141 := by
  obtain ⟨h1, h2⟩ := jinT h
  obtain ⟨j, hj, rfl⟩ := nI_of (Int32.not_lt.mpr h1)
  have h3 : nI j ≤ nI 9 := h2
  rw [nI_leI hj (by decide)] at h3
  exact jofv hb rfl (by omega)
theorem jofv2 {I : jI} {b w : Int32} (hb : jB8 b) (h : ¬ fX7_in I w 0 2 = 0) : vp_in (15 + 12 * b + (9 + w)) 141 := by
  obtain ⟨h1, h2⟩ := jinT h
  obtain ⟨j, hj, rfl⟩ := nI_of (Int32.not_lt.mpr h1)
  have h3 : nI j ≤ nI 2 := h2
  rw [nI_leI hj (by decide)] at h3
  exact jofv hb (show (9 : Int32) + nI j = nI (9 + j) from nI_add 9 j) (by omega)
theorem jbyv4 {I : jI} {b w : Int32} (hb : jB6 b) (h : ¬ fX7_in I w 0 4 = 0) : vp_in (111 + 5 * b + w) 141 := by
  obtain ⟨h1, h2⟩ := jinT h
  obtain ⟨j, hj, rfl⟩ := nI_of (Int32.not_lt.mpr h1)
  have h3 : nI j ≤ nI 4 := h2
  rw [nI_leI hj (by decide)] at h3
  exact jbyv hb rfl (by omega)
theorem jv11_3 {I : jI} {w : Int32} (h : ¬ fX7_in I w 0 3 = 0) : vp_in (11 + w) 141 := by
  obtain ⟨h1, h2⟩ := jinT h
  obtain ⟨j, hj, rfl⟩ := nI_of (Int32.not_lt.mpr h1)
  have h3 : nI j ≤ nI 3 := h2
  rw [nI_leI hj (by decide)] at h3
  exact (show vp_in (nI 11 + nI j) 141 by rw [nI_add]; exact vp_in_nI (by omega) (by decide))
theorem jv7_3 {I : jI} {w : Int32} (h : ¬ fX7_in I w 0 3 = 0) : vp_in (7 + w) 141 := by
  obtain ⟨h1, h2⟩ := jinT h
  obtain ⟨j, hj, rfl⟩ := nI_of (Int32.not_lt.mpr h1)
  have h3 : nI j ≤ nI 3 := h2
  rw [nI_leI hj (by decide)] at h3
  exact (show vp_in (nI 7 + nI j) 141 by rw [nI_add]; exact vp_in_nI (by omega) (by decide))

def fX7_boilerOf (I : jI) (o : Nat) (x : Int32) (y : Int32) : Int32 :=
  if (fX7_isBoiler I o x) = 0 then
    (-2000000001)
  else
    if (fX7_in I y 0 9) = 0 then
      (-2000000001)
    else
      if y = 4 then
        if (fX7_of I o x 3) = 0 then
          (fX7_of I o x 4)
        else
          (-2000000004)
      else
        if y = 5 then
          if (fX7_of I o x 3) = 2 then
            ((fX7_of I o x 5) - (I (o + 1) ((2 : Int32).toNatClampNeg)))
          else
            (-2000000004)
        else
          if y = 6 then
            (fX7_of I o x y)
          else
            if y = 7 then
              if 0 ≤ (fX7_of I o x 7) then
                (fX7_of I o x y)
              else
                (-2000000004)
            else
              if y = 8 then
                if 0 ≤ (fX7_of I o x 7) then
                  (fX7_of I o x y)
                else
                  (-2000000004)
              else
                if y = 9 then
                  (fX7_strength I o x)
                else
                  (fX7_of I o x y)
set_option maxRecDepth 100000 in
set_option maxHeartbeats 4000000 in
theorem kX7_boilerOf (S : jX) (I : jI) (o : Nat) (x : Int32) (y : Int32) (hM : jModel S o) (hI : jMInv I o) : jM (2, 0, 0) mX7_boilerOf [.ref o, .int x, .int y] S I (jRes (some (.int (fX7_boilerOf I o x y))) S I) := by
  refine jM.of (ls := [.ref o, .int x, .int y]) (by decide) (Nat.le_of_ble_eq_true rfl) (by intro v hv; simp only [List.mem_cons, List.not_mem_nil, or_false] at hv; rcases hv with rfl | rfl | rfl <;> rfl) rfl (fun G hR => ?_)
  refine J_aload_n dX7_boilerOf_0 rfl rfl ?_
  refine J_iload_n dX7_boilerOf_1 rfl ?_
  refine J_cV1r (mc := mX7_isBoiler) hM.1 (by decide) rfl dX7_boilerOf_2 mlX7_67 okX7_isBoiler (kX7_isBoiler S I o x hM) (Nat.le_of_ble_eq_true rfl) (Nat.le_of_ble_eq_true rfl) (Nat.le_of_ble_eq_true rfl) (Nat.le_of_ble_eq_true rfl) ?_
  refine J_if_eq (tgt := 18) dX7_boilerOf_5 (by decide) (fun h1 => ?_) (fun h1 => ?_)
  · skip
    refine J_ldc (-2000000001) dX7_boilerOf_18 jw_760 ?_
    exact J_iret (ty := .int) hR dX7_boilerOf_20 rfl rfl (Nat.le_of_ble_eq_true rfl) (Nat.le_of_ble_eq_true rfl) (jRes_i (by first | (simp only [fX7_boilerOf, if_pos h1]; done) | rfl | (simp only [fX7_boilerOf, if_pos h1]; rfl)) rfl)
  · skip
    refine J_iload_n dX7_boilerOf_8 rfl ?_
    refine J_iconst (0) dX7_boilerOf_9 rfl ?_
    refine J_bipush (9) dX7_boilerOf_10 rfl ?_
    refine J_cS3r (mc := mX7_in) dX7_boilerOf_12 mlX7_30 okX7_in (kX7_in S I y 0 9 ) (Nat.le_of_ble_eq_true rfl) (Nat.le_of_ble_eq_true rfl) (Nat.le_of_ble_eq_true rfl) (Nat.le_of_ble_eq_true rfl) ?_
    refine J_if_ne (tgt := 21) dX7_boilerOf_15 (by decide) (fun h2 => ?_) (fun h2 => ?_)
    · skip
      refine J_iload_n dX7_boilerOf_21 rfl ?_
      by_cases h3 : y = 4
      · skip
        refine J_tabIn (off := 38) (tgt := 60) dX7_boilerOf_22 (by rw [h3]; decide) (by rw [h3]; decide) (by rw [h3]; rfl) (by decide) ?_
        refine J_aload_n dX7_boilerOf_60 rfl rfl ?_
        refine J_iload_n dX7_boilerOf_61 rfl ?_
        refine J_iconst (3) dX7_boilerOf_62 rfl ?_
        refine J_cV2r (mc := mX7_of) hM.1 (by decide) rfl dX7_boilerOf_63 mlX7_34 okX7_of (kX7_of S I o x 3 hM (jofv (jisB hI h1) (k := 3) rfl (by decide))) (Nat.le_of_ble_eq_true rfl) (Nat.le_of_ble_eq_true rfl) (Nat.le_of_ble_eq_true rfl) (Nat.le_of_ble_eq_true rfl) ?_
        refine J_if_ne (tgt := 78) dX7_boilerOf_66 (by decide) (fun h4 => ?_) (fun h4 => ?_)
        · skip
          refine J_ldc (-2000000004) dX7_boilerOf_78 jw_903 ?_
          exact J_iret (ty := .int) hR dX7_boilerOf_80 rfl rfl (Nat.le_of_ble_eq_true rfl) (Nat.le_of_ble_eq_true rfl) (jRes_i (by first | (simp only [fX7_boilerOf, if_neg h1, if_neg h2, if_pos h3, if_neg h4]; done) | rfl | (simp only [fX7_boilerOf, if_neg h1, if_neg h2, if_pos h3, if_neg h4]; rfl)) rfl)
        · skip
          refine J_aload_n dX7_boilerOf_69 rfl rfl ?_
          refine J_iload_n dX7_boilerOf_70 rfl ?_
          refine J_iconst (4) dX7_boilerOf_71 rfl ?_
          refine J_cV2r (mc := mX7_of) hM.1 (by decide) rfl dX7_boilerOf_72 mlX7_34 okX7_of (kX7_of S I o x 4 hM (jofv (jisB hI h1) (k := 4) rfl (by decide))) (Nat.le_of_ble_eq_true rfl) (Nat.le_of_ble_eq_true rfl) (Nat.le_of_ble_eq_true rfl) (Nat.le_of_ble_eq_true rfl) ?_
          refine J_goto (tgt := 80) dX7_boilerOf_75 (by decide) ?_
          exact J_iret (ty := .int) hR dX7_boilerOf_80 rfl rfl (Nat.le_of_ble_eq_true rfl) (Nat.le_of_ble_eq_true rfl) (jRes_i (by first | (simp only [fX7_boilerOf, if_neg h1, if_neg h2, if_pos h3, if_pos h4]; done) | rfl | (simp only [fX7_boilerOf, if_neg h1, if_neg h2, if_pos h3, if_pos h4]; rfl)) rfl)
      by_cases h5 : y = 5
      · skip
        refine J_tabIn (off := 59) (tgt := 81) dX7_boilerOf_22 (by rw [h5]; decide) (by rw [h5]; decide) (by rw [h5]; rfl) (by decide) ?_
        refine J_aload_n dX7_boilerOf_81 rfl rfl ?_
        refine J_iload_n dX7_boilerOf_82 rfl ?_
        refine J_iconst (3) dX7_boilerOf_83 rfl ?_
        refine J_cV2r (mc := mX7_of) hM.1 (by decide) rfl dX7_boilerOf_84 mlX7_34 okX7_of (kX7_of S I o x 3 hM (jofv (jisB hI h1) (k := 3) rfl (by decide))) (Nat.le_of_ble_eq_true rfl) (Nat.le_of_ble_eq_true rfl) (Nat.le_of_ble_eq_true rfl) (Nat.le_of_ble_eq_true rfl) ?_
        refine J_iconst (2) dX7_boilerOf_87 rfl ?_
        refine J_icmp_ne (tgt := 107) dX7_boilerOf_88 (by decide) (fun h6 => ?_) (fun h6 => ?_)
        · skip
          refine J_ldc (-2000000004) dX7_boilerOf_107 jw_903 ?_
          exact J_iret (ty := .int) hR dX7_boilerOf_109 rfl rfl (Nat.le_of_ble_eq_true rfl) (Nat.le_of_ble_eq_true rfl) (jRes_i (by first | (simp only [fX7_boilerOf, if_neg h1, if_neg h2, if_neg h3, if_pos h5, if_neg h6]; done) | rfl | (simp only [fX7_boilerOf, if_neg h1, if_neg h2, if_neg h3, if_pos h5, if_neg h6]; rfl)) rfl)
        · skip
          refine J_aload_n dX7_boilerOf_91 rfl rfl ?_
          refine J_iload_n dX7_boilerOf_92 rfl ?_
          refine J_iconst (5) dX7_boilerOf_93 rfl ?_
          refine J_cV2r (mc := mX7_of) hM.1 (by decide) rfl dX7_boilerOf_94 mlX7_34 okX7_of (kX7_of S I o x 5 hM (jofv (jisB hI h1) (k := 5) rfl (by decide))) (Nat.le_of_ble_eq_true rfl) (Nat.le_of_ble_eq_true rfl) (Nat.le_of_ble_eq_true rfl) (Nat.le_of_ble_eq_true rfl) ?_
          refine J_aload_n dX7_boilerOf_97 rfl rfl ?_
          refine J_getR dX7_boilerOf_98 flX7_7 rfl hM.1 hM.r0 ?_
          refine J_iconst (2) dX7_boilerOf_101 rfl ?_
          refine J_iaload dX7_boilerOf_102 hM.a0 (by unfold vp_in; decide) ?_
          refine J_isub dX7_boilerOf_103 ?_
          refine J_goto (tgt := 109) dX7_boilerOf_104 (by decide) ?_
          exact J_iret (ty := .int) hR dX7_boilerOf_109 rfl rfl (Nat.le_of_ble_eq_true rfl) (Nat.le_of_ble_eq_true rfl) (jRes_i (by first | (simp only [fX7_boilerOf, if_neg h1, if_neg h2, if_neg h3, if_pos h5, if_pos h6]; done) | rfl | (simp only [fX7_boilerOf, if_neg h1, if_neg h2, if_neg h3, if_pos h5, if_pos h6]; rfl)) rfl)
      by_cases h7 : y = 6
      · skip
        refine J_tabIn (off := 116) (tgt := 138) dX7_boilerOf_22 (by rw [h7]; decide) (by rw [h7]; decide) (by rw [h7]; rfl) (by decide) ?_
        refine J_aload_n dX7_boilerOf_138 rfl rfl ?_
        refine J_iload_n dX7_boilerOf_139 rfl ?_
        refine J_iload_n dX7_boilerOf_140 rfl ?_
        refine J_cV2r (mc := mX7_of) hM.1 (by decide) rfl dX7_boilerOf_141 mlX7_34 okX7_of (kX7_of S I o x y hM (jofv9 (jisB hI h1) h2)) (Nat.le_of_ble_eq_true rfl) (Nat.le_of_ble_eq_true rfl) (Nat.le_of_ble_eq_true rfl) (Nat.le_of_ble_eq_true rfl) ?_
        exact J_iret (ty := .int) hR dX7_boilerOf_144 rfl rfl (Nat.le_of_ble_eq_true rfl) (Nat.le_of_ble_eq_true rfl) (jRes_i (by first | (simp only [fX7_boilerOf, if_neg h1, if_neg h2, if_neg h3, if_neg h5, if_pos h7]; done) | rfl | (simp only [fX7_boilerOf, if_neg h1, if_neg h2, if_neg h3, if_neg h5, if_pos h7]; rfl)) rfl)
      by_cases h8 : y = 7
      · skip
        refine J_tabIn (off := 88) (tgt := 110) dX7_boilerOf_22 (by rw [h8]; decide) (by rw [h8]; decide) (by rw [h8]; rfl) (by decide) ?_
        refine J_aload_n dX7_boilerOf_110 rfl rfl ?_
        refine J_iload_n dX7_boilerOf_111 rfl ?_
        refine J_bipush (7) dX7_boilerOf_112 rfl ?_
        refine J_cV2r (mc := mX7_of) hM.1 (by decide) rfl dX7_boilerOf_114 mlX7_34 okX7_of (kX7_of S I o x 7 hM (jofv (jisB hI h1) (k := 7) rfl (by decide))) (Nat.le_of_ble_eq_true rfl) (Nat.le_of_ble_eq_true rfl) (Nat.le_of_ble_eq_true rfl) (Nat.le_of_ble_eq_true rfl) ?_
        refine J_if_ge (tgt := 125) dX7_boilerOf_117 (by decide) (fun h9 => ?_) (fun h9 => ?_)
        · skip
          refine J_aload_n dX7_boilerOf_125 rfl rfl ?_
          refine J_iload_n dX7_boilerOf_126 rfl ?_
          refine J_iload_n dX7_boilerOf_127 rfl ?_
          refine J_cV2r (mc := mX7_of) hM.1 (by decide) rfl dX7_boilerOf_128 mlX7_34 okX7_of (kX7_of S I o x y hM (jofv9 (jisB hI h1) h2)) (Nat.le_of_ble_eq_true rfl) (Nat.le_of_ble_eq_true rfl) (Nat.le_of_ble_eq_true rfl) (Nat.le_of_ble_eq_true rfl) ?_
          exact J_iret (ty := .int) hR dX7_boilerOf_131 rfl rfl (Nat.le_of_ble_eq_true rfl) (Nat.le_of_ble_eq_true rfl) (jRes_i (by first | (simp only [fX7_boilerOf, if_neg h1, if_neg h2, if_neg h3, if_neg h5, if_neg h7, if_pos h8, if_pos h9]; done) | rfl | (simp only [fX7_boilerOf, if_neg h1, if_neg h2, if_neg h3, if_neg h5, if_neg h7, if_pos h8, if_pos h9]; rfl)) rfl)
        · skip
          refine J_ldc (-2000000004) dX7_boilerOf_120 jw_903 ?_
          refine J_goto (tgt := 131) dX7_boilerOf_122 (by decide) ?_
          exact J_iret (ty := .int) hR dX7_boilerOf_131 rfl rfl (Nat.le_of_ble_eq_true rfl) (Nat.le_of_ble_eq_true rfl) (jRes_i (by first | (simp only [fX7_boilerOf, if_neg h1, if_neg h2, if_neg h3, if_neg h5, if_neg h7, if_pos h8, if_neg h9]; done) | rfl | (simp only [fX7_boilerOf, if_neg h1, if_neg h2, if_neg h3, if_neg h5, if_neg h7, if_pos h8, if_neg h9]; rfl)) rfl)
      by_cases h10 : y = 8
      · skip
        refine J_tabIn (off := 88) (tgt := 110) dX7_boilerOf_22 (by rw [h10]; decide) (by rw [h10]; decide) (by rw [h10]; rfl) (by decide) ?_
        refine J_aload_n dX7_boilerOf_110 rfl rfl ?_
        refine J_iload_n dX7_boilerOf_111 rfl ?_
        refine J_bipush (7) dX7_boilerOf_112 rfl ?_
        refine J_cV2r (mc := mX7_of) hM.1 (by decide) rfl dX7_boilerOf_114 mlX7_34 okX7_of (kX7_of S I o x 7 hM (jofv (jisB hI h1) (k := 7) rfl (by decide))) (Nat.le_of_ble_eq_true rfl) (Nat.le_of_ble_eq_true rfl) (Nat.le_of_ble_eq_true rfl) (Nat.le_of_ble_eq_true rfl) ?_
        refine J_if_ge (tgt := 125) dX7_boilerOf_117 (by decide) (fun h11 => ?_) (fun h11 => ?_)
        · skip
          refine J_aload_n dX7_boilerOf_125 rfl rfl ?_
          refine J_iload_n dX7_boilerOf_126 rfl ?_
          refine J_iload_n dX7_boilerOf_127 rfl ?_
          refine J_cV2r (mc := mX7_of) hM.1 (by decide) rfl dX7_boilerOf_128 mlX7_34 okX7_of (kX7_of S I o x y hM (jofv9 (jisB hI h1) h2)) (Nat.le_of_ble_eq_true rfl) (Nat.le_of_ble_eq_true rfl) (Nat.le_of_ble_eq_true rfl) (Nat.le_of_ble_eq_true rfl) ?_
          exact J_iret (ty := .int) hR dX7_boilerOf_131 rfl rfl (Nat.le_of_ble_eq_true rfl) (Nat.le_of_ble_eq_true rfl) (jRes_i (by first | (simp only [fX7_boilerOf, if_neg h1, if_neg h2, if_neg h3, if_neg h5, if_neg h7, if_neg h8, if_pos h10, if_pos h11]; done) | rfl | (simp only [fX7_boilerOf, if_neg h1, if_neg h2, if_neg h3, if_neg h5, if_neg h7, if_neg h8, if_pos h10, if_pos h11]; rfl)) rfl)
        · skip
          refine J_ldc (-2000000004) dX7_boilerOf_120 jw_903 ?_
          refine J_goto (tgt := 131) dX7_boilerOf_122 (by decide) ?_
          exact J_iret (ty := .int) hR dX7_boilerOf_131 rfl rfl (Nat.le_of_ble_eq_true rfl) (Nat.le_of_ble_eq_true rfl) (jRes_i (by first | (simp only [fX7_boilerOf, if_neg h1, if_neg h2, if_neg h3, if_neg h5, if_neg h7, if_neg h8, if_pos h10, if_neg h11]; done) | rfl | (simp only [fX7_boilerOf, if_neg h1, if_neg h2, if_neg h3, if_neg h5, if_neg h7, if_neg h8, if_pos h10, if_neg h11]; rfl)) rfl)
      by_cases h12 : y = 9
      · skip
        refine J_tabIn (off := 110) (tgt := 132) dX7_boilerOf_22 (by rw [h12]; decide) (by rw [h12]; decide) (by rw [h12]; rfl) (by decide) ?_
        refine J_aload_n dX7_boilerOf_132 rfl rfl ?_
        refine J_iload_n dX7_boilerOf_133 rfl ?_
        refine J_cV1r (mc := mX7_strength) hM.1 (by decide) rfl dX7_boilerOf_134 mlX7_38 okX7_strength (kX7_strength S I o x hM (jisB hI h1)) (Nat.le_of_ble_eq_true rfl) (Nat.le_of_ble_eq_true rfl) (Nat.le_of_ble_eq_true rfl) (Nat.le_of_ble_eq_true rfl) ?_
        exact J_iret (ty := .int) hR dX7_boilerOf_137 rfl rfl (Nat.le_of_ble_eq_true rfl) (Nat.le_of_ble_eq_true rfl) (jRes_i (by first | (simp only [fX7_boilerOf, if_neg h1, if_neg h2, if_neg h3, if_neg h5, if_neg h7, if_neg h8, if_neg h10, if_pos h12]; done) | rfl | (simp only [fX7_boilerOf, if_neg h1, if_neg h2, if_neg h3, if_neg h5, if_neg h7, if_neg h8, if_neg h10, if_pos h12]; rfl)) rfl)
      refine J_tabOut (tgt := 138) dX7_boilerOf_22 (by have e0 := lv_neT h3 (a := 4) rfl; have e1 := lv_neT h5 (a := 5) rfl; have e2 := lv_neT h7 (a := 6) rfl; have e3 := lv_neT h8 (a := 7) rfl; have e4 := lv_neT h10 (a := 8) rfl; have e5 := lv_neT h12 (a := 9) rfl; omega) (by decide) ?_
      refine J_aload_n dX7_boilerOf_138 rfl rfl ?_
      refine J_iload_n dX7_boilerOf_139 rfl ?_
      refine J_iload_n dX7_boilerOf_140 rfl ?_
      refine J_cV2r (mc := mX7_of) hM.1 (by decide) rfl dX7_boilerOf_141 mlX7_34 okX7_of (kX7_of S I o x y hM (jofv9 (jisB hI h1) h2)) (Nat.le_of_ble_eq_true rfl) (Nat.le_of_ble_eq_true rfl) (Nat.le_of_ble_eq_true rfl) (Nat.le_of_ble_eq_true rfl) ?_
      exact J_iret (ty := .int) hR dX7_boilerOf_144 rfl rfl (Nat.le_of_ble_eq_true rfl) (Nat.le_of_ble_eq_true rfl) (jRes_i (by first | (simp only [fX7_boilerOf, if_neg h1, if_neg h2, if_neg h3, if_neg h5, if_neg h7, if_neg h8, if_neg h10, if_neg h12]; done) | rfl | (simp only [fX7_boilerOf, if_neg h1, if_neg h2, if_neg h3, if_neg h5, if_neg h7, if_neg h8, if_neg h10, if_neg h12]; rfl)) rfl)
    · skip
      refine J_ldc (-2000000001) dX7_boilerOf_18 jw_760 ?_
      exact J_iret (ty := .int) hR dX7_boilerOf_20 rfl rfl (Nat.le_of_ble_eq_true rfl) (Nat.le_of_ble_eq_true rfl) (jRes_i (by first | (simp only [fX7_boilerOf, if_neg h1, if_pos h2]; done) | rfl | (simp only [fX7_boilerOf, if_neg h1, if_pos h2]; rfl)) rfl)
def fX7_paperOf (I : jI) (o : Nat) (x : Int32) (y : Int32) : Int32 :=
  if (fX7_isBoiler I o x) = 0 then
    (-2000000001)
  else
    if (fX7_in I y 0 2) = 0 then
      (-2000000001)
    else
      if (fX7_hasPaper I o x) = 0 then
        (-2000000004)
      else
        (fX7_of I o x (9 + y))
set_option maxRecDepth 100000 in
set_option maxHeartbeats 4000000 in
theorem kX7_paperOf (S : jX) (I : jI) (o : Nat) (x : Int32) (y : Int32) (hM : jModel S o) (hI : jMInv I o) : jM (2, 0, 0) mX7_paperOf [.ref o, .int x, .int y] S I (jRes (some (.int (fX7_paperOf I o x y))) S I) := by
  refine jM.of (ls := [.ref o, .int x, .int y]) (by decide) (Nat.le_of_ble_eq_true rfl) (by intro v hv; simp only [List.mem_cons, List.not_mem_nil, or_false] at hv; rcases hv with rfl | rfl | rfl <;> rfl) rfl (fun G hR => ?_)
  refine J_aload_n dX7_paperOf_0 rfl rfl ?_
  refine J_iload_n dX7_paperOf_1 rfl ?_
  refine J_cV1r (mc := mX7_isBoiler) hM.1 (by decide) rfl dX7_paperOf_2 mlX7_67 okX7_isBoiler (kX7_isBoiler S I o x hM) (Nat.le_of_ble_eq_true rfl) (Nat.le_of_ble_eq_true rfl) (Nat.le_of_ble_eq_true rfl) (Nat.le_of_ble_eq_true rfl) ?_
  refine J_if_eq (tgt := 17) dX7_paperOf_5 (by decide) (fun h1 => ?_) (fun h1 => ?_)
  · skip
    refine J_ldc (-2000000001) dX7_paperOf_17 jw_760 ?_
    exact J_iret (ty := .int) hR dX7_paperOf_19 rfl rfl (Nat.le_of_ble_eq_true rfl) (Nat.le_of_ble_eq_true rfl) (jRes_i (by first | (simp only [fX7_paperOf, if_pos h1]; done) | rfl | (simp only [fX7_paperOf, if_pos h1]; rfl)) rfl)
  · skip
    refine J_iload_n dX7_paperOf_8 rfl ?_
    refine J_iconst (0) dX7_paperOf_9 rfl ?_
    refine J_iconst (2) dX7_paperOf_10 rfl ?_
    refine J_cS3r (mc := mX7_in) dX7_paperOf_11 mlX7_30 okX7_in (kX7_in S I y 0 2 ) (Nat.le_of_ble_eq_true rfl) (Nat.le_of_ble_eq_true rfl) (Nat.le_of_ble_eq_true rfl) (Nat.le_of_ble_eq_true rfl) ?_
    refine J_if_ne (tgt := 20) dX7_paperOf_14 (by decide) (fun h2 => ?_) (fun h2 => ?_)
    · skip
      refine J_aload_n dX7_paperOf_20 rfl rfl ?_
      refine J_iload_n dX7_paperOf_21 rfl ?_
      refine J_cV1r (mc := mX7_hasPaper) hM.1 (by decide) rfl dX7_paperOf_22 mlX7_46 okX7_hasPaper (kX7_hasPaper S I o x hM (jisB hI h1)) (Nat.le_of_ble_eq_true rfl) (Nat.le_of_ble_eq_true rfl) (Nat.le_of_ble_eq_true rfl) (Nat.le_of_ble_eq_true rfl) ?_
      refine J_if_eq (tgt := 40) dX7_paperOf_25 (by decide) (fun h3 => ?_) (fun h3 => ?_)
      · skip
        refine J_ldc (-2000000004) dX7_paperOf_40 jw_903 ?_
        exact J_iret (ty := .int) hR dX7_paperOf_42 rfl rfl (Nat.le_of_ble_eq_true rfl) (Nat.le_of_ble_eq_true rfl) (jRes_i (by first | (simp only [fX7_paperOf, if_neg h1, if_neg h2, if_pos h3]; done) | rfl | (simp only [fX7_paperOf, if_neg h1, if_neg h2, if_pos h3]; rfl)) rfl)
      · skip
        refine J_aload_n dX7_paperOf_28 rfl rfl ?_
        refine J_iload_n dX7_paperOf_29 rfl ?_
        refine J_bipush (9) dX7_paperOf_30 rfl ?_
        refine J_iload_n dX7_paperOf_32 rfl ?_
        refine J_iadd dX7_paperOf_33 ?_
        refine J_cV2r (mc := mX7_of) hM.1 (by decide) rfl dX7_paperOf_34 mlX7_34 okX7_of (kX7_of S I o x (9 + y) hM (jofv2 (jisB hI h1) h2)) (Nat.le_of_ble_eq_true rfl) (Nat.le_of_ble_eq_true rfl) (Nat.le_of_ble_eq_true rfl) (Nat.le_of_ble_eq_true rfl) ?_
        refine J_goto (tgt := 42) dX7_paperOf_37 (by decide) ?_
        exact J_iret (ty := .int) hR dX7_paperOf_42 rfl rfl (Nat.le_of_ble_eq_true rfl) (Nat.le_of_ble_eq_true rfl) (jRes_i (by first | (simp only [fX7_paperOf, if_neg h1, if_neg h2, if_neg h3]; done) | rfl | (simp only [fX7_paperOf, if_neg h1, if_neg h2, if_neg h3]; rfl)) rfl)
    · skip
      refine J_ldc (-2000000001) dX7_paperOf_17 jw_760 ?_
      exact J_iret (ty := .int) hR dX7_paperOf_19 rfl rfl (Nat.le_of_ble_eq_true rfl) (Nat.le_of_ble_eq_true rfl) (jRes_i (by first | (simp only [fX7_paperOf, if_neg h1, if_pos h2]; done) | rfl | (simp only [fX7_paperOf, if_neg h1, if_pos h2]; rfl)) rfl)
def fX7_inspectorOf (I : jI) (o : Nat) (x : Int32) (y : Int32) : Int32 :=
  if (fX7_isInspector I o x) = 0 then
    (-2000000001)
  else
    if (fX7_in I y 0 4) = 0 then
      (-2000000001)
    else
      if y = 2 then
        ((fX7_by I o x 1) - (fX7_by I o x 2))
      else
        (fX7_by I o x y)
set_option maxRecDepth 100000 in
set_option maxHeartbeats 4000000 in
theorem kX7_inspectorOf (S : jX) (I : jI) (o : Nat) (x : Int32) (y : Int32) (hM : jModel S o) (hI : jMInv I o) : jM (2, 0, 0) mX7_inspectorOf [.ref o, .int x, .int y] S I (jRes (some (.int (fX7_inspectorOf I o x y))) S I) := by
  refine jM.of (ls := [.ref o, .int x, .int y]) (by decide) (Nat.le_of_ble_eq_true rfl) (by intro v hv; simp only [List.mem_cons, List.not_mem_nil, or_false] at hv; rcases hv with rfl | rfl | rfl <;> rfl) rfl (fun G hR => ?_)
  refine J_aload_n dX7_inspectorOf_0 rfl rfl ?_
  refine J_iload_n dX7_inspectorOf_1 rfl ?_
  refine J_cV1r (mc := mX7_isInspector) hM.1 (by decide) rfl dX7_inspectorOf_2 mlX7_70 okX7_isInspector (kX7_isInspector S I o x hM) (Nat.le_of_ble_eq_true rfl) (Nat.le_of_ble_eq_true rfl) (Nat.le_of_ble_eq_true rfl) (Nat.le_of_ble_eq_true rfl) ?_
  refine J_if_eq (tgt := 17) dX7_inspectorOf_5 (by decide) (fun h1 => ?_) (fun h1 => ?_)
  · skip
    refine J_ldc (-2000000001) dX7_inspectorOf_17 jw_760 ?_
    exact J_iret (ty := .int) hR dX7_inspectorOf_19 rfl rfl (Nat.le_of_ble_eq_true rfl) (Nat.le_of_ble_eq_true rfl) (jRes_i (by first | (simp only [fX7_inspectorOf, if_pos h1]; done) | rfl | (simp only [fX7_inspectorOf, if_pos h1]; rfl)) rfl)
  · skip
    refine J_iload_n dX7_inspectorOf_8 rfl ?_
    refine J_iconst (0) dX7_inspectorOf_9 rfl ?_
    refine J_iconst (4) dX7_inspectorOf_10 rfl ?_
    refine J_cS3r (mc := mX7_in) dX7_inspectorOf_11 mlX7_30 okX7_in (kX7_in S I y 0 4 ) (Nat.le_of_ble_eq_true rfl) (Nat.le_of_ble_eq_true rfl) (Nat.le_of_ble_eq_true rfl) (Nat.le_of_ble_eq_true rfl) ?_
    refine J_if_ne (tgt := 20) dX7_inspectorOf_14 (by decide) (fun h2 => ?_) (fun h2 => ?_)
    · skip
      refine J_iload_n dX7_inspectorOf_20 rfl ?_
      refine J_iconst (2) dX7_inspectorOf_21 rfl ?_
      refine J_icmp_ne (tgt := 41) dX7_inspectorOf_22 (by decide) (fun h3 => ?_) (fun h3 => ?_)
      · skip
        refine J_aload_n dX7_inspectorOf_41 rfl rfl ?_
        refine J_iload_n dX7_inspectorOf_42 rfl ?_
        refine J_iload_n dX7_inspectorOf_43 rfl ?_
        refine J_cV2r (mc := mX7_by) hM.1 (by decide) rfl dX7_inspectorOf_44 mlX7_49 okX7_by (kX7_by S I o x y hM (jbyv4 (jisI hI h1) h2)) (Nat.le_of_ble_eq_true rfl) (Nat.le_of_ble_eq_true rfl) (Nat.le_of_ble_eq_true rfl) (Nat.le_of_ble_eq_true rfl) ?_
        exact J_iret (ty := .int) hR dX7_inspectorOf_47 rfl rfl (Nat.le_of_ble_eq_true rfl) (Nat.le_of_ble_eq_true rfl) (jRes_i (by first | (simp only [fX7_inspectorOf, if_neg h1, if_neg h2, if_neg h3]; done) | rfl | (simp only [fX7_inspectorOf, if_neg h1, if_neg h2, if_neg h3]; rfl)) rfl)
      · skip
        refine J_aload_n dX7_inspectorOf_25 rfl rfl ?_
        refine J_iload_n dX7_inspectorOf_26 rfl ?_
        refine J_iconst (1) dX7_inspectorOf_27 rfl ?_
        refine J_cV2r (mc := mX7_by) hM.1 (by decide) rfl dX7_inspectorOf_28 mlX7_49 okX7_by (kX7_by S I o x 1 hM (jbyv (jisI hI h1) (k := 1) rfl (by decide))) (Nat.le_of_ble_eq_true rfl) (Nat.le_of_ble_eq_true rfl) (Nat.le_of_ble_eq_true rfl) (Nat.le_of_ble_eq_true rfl) ?_
        refine J_aload_n dX7_inspectorOf_31 rfl rfl ?_
        refine J_iload_n dX7_inspectorOf_32 rfl ?_
        refine J_iconst (2) dX7_inspectorOf_33 rfl ?_
        refine J_cV2r (mc := mX7_by) hM.1 (by decide) rfl dX7_inspectorOf_34 mlX7_49 okX7_by (kX7_by S I o x 2 hM (jbyv (jisI hI h1) (k := 2) rfl (by decide))) (Nat.le_of_ble_eq_true rfl) (Nat.le_of_ble_eq_true rfl) (Nat.le_of_ble_eq_true rfl) (Nat.le_of_ble_eq_true rfl) ?_
        refine J_isub dX7_inspectorOf_37 ?_
        refine J_goto (tgt := 47) dX7_inspectorOf_38 (by decide) ?_
        exact J_iret (ty := .int) hR dX7_inspectorOf_47 rfl rfl (Nat.le_of_ble_eq_true rfl) (Nat.le_of_ble_eq_true rfl) (jRes_i (by first | (simp only [fX7_inspectorOf, if_neg h1, if_neg h2, if_pos h3]; done) | rfl | (simp only [fX7_inspectorOf, if_neg h1, if_neg h2, if_pos h3]; rfl)) rfl)
    · skip
      refine J_ldc (-2000000001) dX7_inspectorOf_17 jw_760 ?_
      exact J_iret (ty := .int) hR dX7_inspectorOf_19 rfl rfl (Nat.le_of_ble_eq_true rfl) (Nat.le_of_ble_eq_true rfl) (jRes_i (by first | (simp only [fX7_inspectorOf, if_neg h1, if_pos h2]; done) | rfl | (simp only [fX7_inspectorOf, if_neg h1, if_pos h2]; rfl)) rfl)
def fX7_why (I : jI) (o : Nat) (x : Int32) (y : Int32) : Int32 :=
  if (fX7_isBoiler I o x) = 0 then
    (-2000000001)
  else
    if y = (-1) then
      (fX7_whyNotFired I o x)
    else
      if (fX7_isInspector I o y) = 0 then
        (-2000000001)
      else
        (fX7_whyNotInspected I o x y)
set_option maxRecDepth 100000 in
set_option maxHeartbeats 4000000 in
theorem kX7_why (S : jX) (I : jI) (o : Nat) (x : Int32) (y : Int32) (hM : jModel S o) (hI : jMInv I o) : jM (3, 0, 0) mX7_why [.ref o, .int x, .int y] S I (jRes (some (.int (fX7_why I o x y))) S I) := by
  refine jM.of (ls := [.ref o, .int x, .int y]) (by decide) (Nat.le_of_ble_eq_true rfl) (by intro v hv; simp only [List.mem_cons, List.not_mem_nil, or_false] at hv; rcases hv with rfl | rfl | rfl <;> rfl) rfl (fun G hR => ?_)
  refine J_aload_n dX7_why_0 rfl rfl ?_
  refine J_iload_n dX7_why_1 rfl ?_
  refine J_cV1r (mc := mX7_isBoiler) hM.1 (by decide) rfl dX7_why_2 mlX7_67 okX7_isBoiler (kX7_isBoiler S I o x hM) (Nat.le_of_ble_eq_true rfl) (Nat.le_of_ble_eq_true rfl) (Nat.le_of_ble_eq_true rfl) (Nat.le_of_ble_eq_true rfl) ?_
  refine J_if_eq (tgt := 21) dX7_why_5 (by decide) (fun h1 => ?_) (fun h1 => ?_)
  · skip
    refine J_ldc (-2000000001) dX7_why_21 jw_760 ?_
    exact J_iret (ty := .int) hR dX7_why_23 rfl rfl (Nat.le_of_ble_eq_true rfl) (Nat.le_of_ble_eq_true rfl) (jRes_i (by first | (simp only [fX7_why, if_pos h1]; done) | rfl | (simp only [fX7_why, if_pos h1]; rfl)) rfl)
  · skip
    refine J_iload_n dX7_why_8 rfl ?_
    refine J_iconst (-1) dX7_why_9 rfl ?_
    refine J_icmp_eq (tgt := 24) dX7_why_10 (by decide) (fun h2 => ?_) (fun h2 => ?_)
    · skip
      refine J_iload_n dX7_why_24 rfl ?_
      refine J_iconst (-1) dX7_why_25 rfl ?_
      refine J_icmp_ne (tgt := 37) dX7_why_26 (by decide) (fun h3 => ?_) (fun h3 => ?_)
      · skip
        exact absurd h2 h3
      · skip
        refine J_aload_n dX7_why_29 rfl rfl ?_
        refine J_iload_n dX7_why_30 rfl ?_
        refine J_cV1r (mc := mX7_whyNotFired) hM.1 (by decide) rfl dX7_why_31 mlX7_90 okX7_whyNotFired (kX7_whyNotFired S I o x hM (jisB hI h1)) (Nat.le_of_ble_eq_true rfl) (Nat.le_of_ble_eq_true rfl) (Nat.le_of_ble_eq_true rfl) (Nat.le_of_ble_eq_true rfl) ?_
        refine J_goto (tgt := 43) dX7_why_34 (by decide) ?_
        exact J_iret (ty := .int) hR dX7_why_43 rfl rfl (Nat.le_of_ble_eq_true rfl) (Nat.le_of_ble_eq_true rfl) (jRes_i (by first | (simp only [fX7_why, if_neg h1, if_pos h2]; done) | rfl | (simp only [fX7_why, if_neg h1, if_pos h2]; rfl)) rfl)
    · skip
      refine J_aload_n dX7_why_13 rfl rfl ?_
      refine J_iload_n dX7_why_14 rfl ?_
      refine J_cV1r (mc := mX7_isInspector) hM.1 (by decide) rfl dX7_why_15 mlX7_70 okX7_isInspector (kX7_isInspector S I o y hM) (Nat.le_of_ble_eq_true rfl) (Nat.le_of_ble_eq_true rfl) (Nat.le_of_ble_eq_true rfl) (Nat.le_of_ble_eq_true rfl) ?_
      refine J_if_ne (tgt := 24) dX7_why_18 (by decide) (fun h4 => ?_) (fun h4 => ?_)
      · skip
        refine J_iload_n dX7_why_24 rfl ?_
        refine J_iconst (-1) dX7_why_25 rfl ?_
        refine J_icmp_ne (tgt := 37) dX7_why_26 (by decide) (fun h5 => ?_) (fun h5 => ?_)
        · skip
          refine J_aload_n dX7_why_37 rfl rfl ?_
          refine J_iload_n dX7_why_38 rfl ?_
          refine J_iload_n dX7_why_39 rfl ?_
          refine J_cV2r (mc := mX7_whyNotInspected) hM.1 (by decide) rfl dX7_why_40 mlX7_73 okX7_whyNotInspected (kX7_whyNotInspected S I o x y hM (jisB hI h1) (jisI hI h4)) (Nat.le_of_ble_eq_true rfl) (Nat.le_of_ble_eq_true rfl) (Nat.le_of_ble_eq_true rfl) (Nat.le_of_ble_eq_true rfl) ?_
          exact J_iret (ty := .int) hR dX7_why_43 rfl rfl (Nat.le_of_ble_eq_true rfl) (Nat.le_of_ble_eq_true rfl) (jRes_i (by first | (simp only [fX7_why, if_neg h1, if_neg h2, if_neg h4]; done) | rfl | (simp only [fX7_why, if_neg h1, if_neg h2, if_neg h4]; rfl)) rfl)
        · skip
          exact absurd h5 h2
      · skip
        refine J_ldc (-2000000001) dX7_why_21 jw_760 ?_
        exact J_iret (ty := .int) hR dX7_why_23 rfl rfl (Nat.le_of_ble_eq_true rfl) (Nat.le_of_ble_eq_true rfl) (jRes_i (by first | (simp only [fX7_why, if_neg h1, if_neg h2, if_pos h4]; done) | rfl | (simp only [fX7_why, if_neg h1, if_neg h2, if_pos h4]; rfl)) rfl)
def fX7_account (I : jI) (o : Nat) (x : Int32) : Int32 :=
  if (fX7_in I x 0 3) = 0 then
    (-2000000001)
  else
    (I (o + 1) ((11 + x)).toNatClampNeg)
set_option maxRecDepth 100000 in
set_option maxHeartbeats 4000000 in
theorem kX7_account (S : jX) (I : jI) (o : Nat) (x : Int32) (hM : jModel S o) (hI : jMInv I o) : jM (1, 0, 0) mX7_account [.ref o, .int x] S I (jRes (some (.int (fX7_account I o x))) S I) := by
  refine jM.of (ls := [.ref o, .int x]) (by decide) (Nat.le_of_ble_eq_true rfl) (by intro v hv; simp only [List.mem_cons, List.not_mem_nil, or_false] at hv; rcases hv with rfl | rfl <;> rfl) rfl (fun G hR => ?_)
  refine J_iload_n dX7_account_0 rfl ?_
  refine J_iconst (0) dX7_account_1 rfl ?_
  refine J_iconst (3) dX7_account_2 rfl ?_
  refine J_cS3r (mc := mX7_in) dX7_account_3 mlX7_30 okX7_in (kX7_in S I x 0 3 ) (Nat.le_of_ble_eq_true rfl) (Nat.le_of_ble_eq_true rfl) (Nat.le_of_ble_eq_true rfl) (Nat.le_of_ble_eq_true rfl) ?_
  refine J_if_eq (tgt := 21) dX7_account_6 (by decide) (fun h1 => ?_) (fun h1 => ?_)
  · skip
    refine J_ldc (-2000000001) dX7_account_21 jw_760 ?_
    exact J_iret (ty := .int) hR dX7_account_23 rfl rfl (Nat.le_of_ble_eq_true rfl) (Nat.le_of_ble_eq_true rfl) (jRes_i (by first | (simp only [fX7_account, if_pos h1]; done) | rfl | (simp only [fX7_account, if_pos h1]; rfl)) rfl)
  · skip
    refine J_aload_n dX7_account_9 rfl rfl ?_
    refine J_getR dX7_account_10 flX7_7 rfl hM.1 hM.r0 ?_
    refine J_bipush (11) dX7_account_13 rfl ?_
    refine J_iload_n dX7_account_15 rfl ?_
    refine J_iadd dX7_account_16 ?_
    refine J_iaload dX7_account_17 hM.a0 (jv11_3 h1) ?_
    refine J_goto (tgt := 23) dX7_account_18 (by decide) ?_
    exact J_iret (ty := .int) hR dX7_account_23 rfl rfl (Nat.le_of_ble_eq_true rfl) (Nat.le_of_ble_eq_true rfl) (jRes_i (by first | (simp only [fX7_account, if_neg h1]; done) | rfl | (simp only [fX7_account, if_neg h1]; rfl)) rfl)
def fX7_would (I : jI) (o : Nat) (x : Int32) (y : Int32) (z : Int32) : Int32 :=
  if (fX7_isBoiler I o x) = 0 then
    (-2000000001)
  else
    if (fX7_in I y 0 1) = 0 then
      (-2000000001)
    else
      if (fX7_in I z 0 1) = 0 then
        (-2000000001)
      else
        if z = 0 then
          (fX7_pressureBy I o x y)
        else
          if (fX7_pressureBy I o x y) = 0 then
            (-2000000004)
          else
            (fX7_lastBy I o x y)
set_option maxRecDepth 100000 in
set_option maxHeartbeats 4000000 in
theorem kX7_would (S : jX) (I : jI) (o : Nat) (x : Int32) (y : Int32) (z : Int32) (hM : jModel S o) (hI : jMInv I o) : jM (3, 0, 0) mX7_would [.ref o, .int x, .int y, .int z] S I (jRes (some (.int (fX7_would I o x y z))) S I) := by
  refine jM.of (ls := [.ref o, .int x, .int y, .int z, .long 0]) (by decide) (Nat.le_of_ble_eq_true rfl) (by intro v hv; simp only [List.mem_cons, List.not_mem_nil, or_false] at hv; rcases hv with rfl | rfl | rfl | rfl <;> rfl) rfl (fun G hR => ?_)
  refine J_aload_n dX7_would_0 rfl rfl ?_
  refine J_iload_n dX7_would_1 rfl ?_
  refine J_cV1r (mc := mX7_isBoiler) hM.1 (by decide) rfl dX7_would_2 mlX7_67 okX7_isBoiler (kX7_isBoiler S I o x hM) (Nat.le_of_ble_eq_true rfl) (Nat.le_of_ble_eq_true rfl) (Nat.le_of_ble_eq_true rfl) (Nat.le_of_ble_eq_true rfl) ?_
  refine J_if_eq (tgt := 26) dX7_would_5 (by decide) (fun h1 => ?_) (fun h1 => ?_)
  · skip
    refine J_ldc (-2000000001) dX7_would_26 jw_760 ?_
    exact J_iret (ty := .int) hR dX7_would_28 rfl rfl (Nat.le_of_ble_eq_true rfl) (Nat.le_of_ble_eq_true rfl) (jRes_i (by first | (simp only [fX7_would, if_pos h1]; done) | rfl | (simp only [fX7_would, if_pos h1]; rfl)) rfl)
  · skip
    refine J_iload_n dX7_would_8 rfl ?_
    refine J_iconst (0) dX7_would_9 rfl ?_
    refine J_iconst (1) dX7_would_10 rfl ?_
    refine J_cS3r (mc := mX7_in) dX7_would_11 mlX7_30 okX7_in (kX7_in S I y 0 1 ) (Nat.le_of_ble_eq_true rfl) (Nat.le_of_ble_eq_true rfl) (Nat.le_of_ble_eq_true rfl) (Nat.le_of_ble_eq_true rfl) ?_
    refine J_if_eq (tgt := 26) dX7_would_14 (by decide) (fun h2 => ?_) (fun h2 => ?_)
    · skip
      refine J_ldc (-2000000001) dX7_would_26 jw_760 ?_
      exact J_iret (ty := .int) hR dX7_would_28 rfl rfl (Nat.le_of_ble_eq_true rfl) (Nat.le_of_ble_eq_true rfl) (jRes_i (by first | (simp only [fX7_would, if_neg h1, if_pos h2]; done) | rfl | (simp only [fX7_would, if_neg h1, if_pos h2]; rfl)) rfl)
    · skip
      refine J_iload_n dX7_would_17 rfl ?_
      refine J_iconst (0) dX7_would_18 rfl ?_
      refine J_iconst (1) dX7_would_19 rfl ?_
      refine J_cS3r (mc := mX7_in) dX7_would_20 mlX7_30 okX7_in (kX7_in S I z 0 1 ) (Nat.le_of_ble_eq_true rfl) (Nat.le_of_ble_eq_true rfl) (Nat.le_of_ble_eq_true rfl) (Nat.le_of_ble_eq_true rfl) ?_
      refine J_if_ne (tgt := 29) dX7_would_23 (by decide) (fun h3 => ?_) (fun h3 => ?_)
      · skip
        refine J_aload_n dX7_would_29 rfl rfl ?_
        refine J_iload_n dX7_would_30 rfl ?_
        refine J_iload_n dX7_would_31 rfl ?_
        refine J_cV2r (mc := mX7_pressureBy) hM.1 (by decide) rfl dX7_would_32 mlX7_77 okX7_pressureBy (kX7_pressureBy S I o x y hM (jisB hI h1) (jv7 (jin01 h2))) (Nat.le_of_ble_eq_true rfl) (Nat.le_of_ble_eq_true rfl) (Nat.le_of_ble_eq_true rfl) (Nat.le_of_ble_eq_true rfl) ?_
        refine J_istore dX7_would_35 (Nat.le_of_ble_eq_true rfl) ?_
        refine J_iload_n dX7_would_37 rfl ?_
        refine J_if_ne (tgt := 46) dX7_would_38 (by decide) (fun h4 => ?_) (fun h4 => ?_)
        · skip
          refine J_iload dX7_would_46 rfl ?_
          refine J_if_ne (tgt := 56) dX7_would_48 (by decide) (fun h5 => ?_) (fun h5 => ?_)
          · skip
            refine J_aload_n dX7_would_56 rfl rfl ?_
            refine J_iload_n dX7_would_57 rfl ?_
            refine J_iload_n dX7_would_58 rfl ?_
            refine J_cV2r (mc := mX7_lastBy) hM.1 (by decide) rfl dX7_would_59 mlX7_87 okX7_lastBy (kX7_lastBy S I o x y hM (jisB hI h1)) (Nat.le_of_ble_eq_true rfl) (Nat.le_of_ble_eq_true rfl) (Nat.le_of_ble_eq_true rfl) (Nat.le_of_ble_eq_true rfl) ?_
            exact J_iret (ty := .int) hR dX7_would_62 rfl rfl (Nat.le_of_ble_eq_true rfl) (Nat.le_of_ble_eq_true rfl) (jRes_i (by first | (simp only [fX7_would, if_neg h1, if_neg h2, if_neg h3, if_neg h4, if_neg h5]; done) | rfl | (simp only [fX7_would, if_neg h1, if_neg h2, if_neg h3, if_neg h4, if_neg h5]; rfl)) rfl)
          · skip
            refine J_ldc (-2000000004) dX7_would_51 jw_903 ?_
            refine J_goto (tgt := 62) dX7_would_53 (by decide) ?_
            exact J_iret (ty := .int) hR dX7_would_62 rfl rfl (Nat.le_of_ble_eq_true rfl) (Nat.le_of_ble_eq_true rfl) (jRes_i (by first | (simp only [fX7_would, if_neg h1, if_neg h2, if_neg h3, if_neg h4, if_pos h5]; done) | rfl | (simp only [fX7_would, if_neg h1, if_neg h2, if_neg h3, if_neg h4, if_pos h5]; rfl)) rfl)
        · skip
          refine J_iload dX7_would_41 rfl ?_
          refine J_goto (tgt := 62) dX7_would_43 (by decide) ?_
          exact J_iret (ty := .int) hR dX7_would_62 rfl rfl (Nat.le_of_ble_eq_true rfl) (Nat.le_of_ble_eq_true rfl) (jRes_i (by first | (simp only [fX7_would, if_neg h1, if_neg h2, if_neg h3, if_pos h4]; done) | rfl | (simp only [fX7_would, if_neg h1, if_neg h2, if_neg h3, if_pos h4]; rfl)) rfl)
      · skip
        refine J_ldc (-2000000001) dX7_would_26 jw_760 ?_
        exact J_iret (ty := .int) hR dX7_would_28 rfl rfl (Nat.le_of_ble_eq_true rfl) (Nat.le_of_ble_eq_true rfl) (jRes_i (by first | (simp only [fX7_would, if_neg h1, if_neg h2, if_pos h3]; done) | rfl | (simp only [fX7_would, if_neg h1, if_neg h2, if_pos h3]; rfl)) rfl)
def fX7_wouldDo (I : jI) (o : Nat) (x : Int32) (y : Int32) : Int32 :=
  if (fX7_pressureBy I o x y) < (fX7_of I o x 1) then
    0
  else
    1
set_option maxRecDepth 100000 in
set_option maxHeartbeats 4000000 in
theorem kX7_wouldDo (S : jX) (I : jI) (o : Nat) (x : Int32) (y : Int32) (hM : jModel S o) (hb : jB8 x) (h7 : vp_in (7 + y) 141) : jM (3, 0, 0) mX7_wouldDo [.ref o, .int x, .int y] S I (jRes (some (.int (fX7_wouldDo I o x y))) S I) := by
  refine jM.of (ls := [.ref o, .int x, .int y]) (by decide) (Nat.le_of_ble_eq_true rfl) (by intro v hv; simp only [List.mem_cons, List.not_mem_nil, or_false] at hv; rcases hv with rfl | rfl | rfl <;> rfl) rfl (fun G hR => ?_)
  refine J_aload_n dX7_wouldDo_0 rfl rfl ?_
  refine J_iload_n dX7_wouldDo_1 rfl ?_
  refine J_iload_n dX7_wouldDo_2 rfl ?_
  refine J_cV2r (mc := mX7_pressureBy) hM.1 (by decide) rfl dX7_wouldDo_3 mlX7_77 okX7_pressureBy (kX7_pressureBy S I o x y hM hb h7) (Nat.le_of_ble_eq_true rfl) (Nat.le_of_ble_eq_true rfl) (Nat.le_of_ble_eq_true rfl) (Nat.le_of_ble_eq_true rfl) ?_
  refine J_aload_n dX7_wouldDo_6 rfl rfl ?_
  refine J_iload_n dX7_wouldDo_7 rfl ?_
  refine J_iconst (1) dX7_wouldDo_8 rfl ?_
  refine J_cV2r (mc := mX7_of) hM.1 (by decide) rfl dX7_wouldDo_9 mlX7_34 okX7_of (kX7_of S I o x 1 hM (jofv hb (k := 1) rfl (by decide))) (Nat.le_of_ble_eq_true rfl) (Nat.le_of_ble_eq_true rfl) (Nat.le_of_ble_eq_true rfl) (Nat.le_of_ble_eq_true rfl) ?_
  refine J_icmp_lt (tgt := 19) dX7_wouldDo_12 (by decide) (fun h1 => ?_) (fun h1 => ?_)
  · skip
    refine J_iconst (0) dX7_wouldDo_19 rfl ?_
    exact J_iret (ty := .boolean) hR dX7_wouldDo_20 rfl rfl (Nat.le_of_ble_eq_true rfl) (Nat.le_of_ble_eq_true rfl) (jRes_i (by first | (simp only [fX7_wouldDo, if_pos h1]; done) | rfl | (simp only [fX7_wouldDo, if_pos h1]; rfl)) rfl)
  · skip
    refine J_iconst (1) dX7_wouldDo_15 rfl ?_
    refine J_goto (tgt := 20) dX7_wouldDo_16 (by decide) ?_
    exact J_iret (ty := .boolean) hR dX7_wouldDo_20 rfl rfl (Nat.le_of_ble_eq_true rfl) (Nat.le_of_ble_eq_true rfl) (jRes_i (by first | (simp only [fX7_wouldDo, if_neg h1]; done) | rfl | (simp only [fX7_wouldDo, if_neg h1]; rfl)) rfl)
def fX7_better (I : jI) (o : Nat) (x : Int32) : Int32 :=
  if (fX7_isBoiler I o x) = 0 then
    (-2000000001)
  else
    if (fX7_wouldDo I o x 0) = 0 then
      if (fX7_wouldDo I o x 1) = 0 then
        (-2000000004)
      else
        1
    else
      if (fX7_wouldDo I o x 1) = 0 then
        0
      else
        if 0 < ((fX7_lastBy I o x 1) - (fX7_lastBy I o x 0)) then
          1
        else
          if ((fX7_lastBy I o x 1) - (fX7_lastBy I o x 0)) = 0 then
            if ((fX7_pressureBy I o x 1) - (fX7_pressureBy I o x 0)) ≤ 0 then
              0
            else
              1
          else
            0
set_option maxRecDepth 100000 in
set_option maxHeartbeats 4000000 in
theorem kX7_better (S : jX) (I : jI) (o : Nat) (x : Int32) (hM : jModel S o) (hI : jMInv I o) : jM (4, 0, 0) mX7_better [.ref o, .int x] S I (jRes (some (.int (fX7_better I o x))) S I) := by
  refine jM.of (ls := [.ref o, .int x, .long 0, .long 0, .long 0, .long 0]) (by decide) (Nat.le_of_ble_eq_true rfl) (by intro v hv; simp only [List.mem_cons, List.not_mem_nil, or_false] at hv; rcases hv with rfl | rfl <;> rfl) rfl (fun G hR => ?_)
  refine J_aload_n dX7_better_0 rfl rfl ?_
  refine J_iload_n dX7_better_1 rfl ?_
  refine J_cV1r (mc := mX7_isBoiler) hM.1 (by decide) rfl dX7_better_2 mlX7_67 okX7_isBoiler (kX7_isBoiler S I o x hM) (Nat.le_of_ble_eq_true rfl) (Nat.le_of_ble_eq_true rfl) (Nat.le_of_ble_eq_true rfl) (Nat.le_of_ble_eq_true rfl) ?_
  refine J_if_ne (tgt := 11) dX7_better_5 (by decide) (fun h1 => ?_) (fun h1 => ?_)
  · skip
    refine J_aload_n dX7_better_11 rfl rfl ?_
    refine J_iload_n dX7_better_12 rfl ?_
    refine J_iconst (0) dX7_better_13 rfl ?_
    refine J_cV2r (mc := mX7_wouldDo) hM.1 (by decide) rfl dX7_better_14 mlX7_122 okX7_wouldDo (kX7_wouldDo S I o x 0 hM (jisB hI h1) (by unfold vp_in; decide)) (Nat.le_of_ble_eq_true rfl) (Nat.le_of_ble_eq_true rfl) (Nat.le_of_ble_eq_true rfl) (Nat.le_of_ble_eq_true rfl) ?_
    refine J_istore_n dX7_better_17 (Nat.le_of_ble_eq_true rfl) ?_
    refine J_aload_n dX7_better_18 rfl rfl ?_
    refine J_iload_n dX7_better_19 rfl ?_
    refine J_iconst (1) dX7_better_20 rfl ?_
    refine J_cV2r (mc := mX7_wouldDo) hM.1 (by decide) rfl dX7_better_21 mlX7_122 okX7_wouldDo (kX7_wouldDo S I o x 1 hM (jisB hI h1) (by unfold vp_in; decide)) (Nat.le_of_ble_eq_true rfl) (Nat.le_of_ble_eq_true rfl) (Nat.le_of_ble_eq_true rfl) (Nat.le_of_ble_eq_true rfl) ?_
    refine J_istore_n dX7_better_24 (Nat.le_of_ble_eq_true rfl) ?_
    refine J_iload_n dX7_better_25 rfl ?_
    refine J_if_eq (tgt := 33) dX7_better_26 (by decide) (fun h2 => ?_) (fun h2 => ?_)
    · skip
      refine J_iload_n dX7_better_33 rfl ?_
      refine J_if_eq (tgt := 41) dX7_better_34 (by decide) (fun h3 => ?_) (fun h3 => ?_)
      · skip
        refine J_iload_n dX7_better_41 rfl ?_
        refine J_if_eq (tgt := 49) dX7_better_42 (by decide) (fun h4 => ?_) (fun h4 => ?_)
        · skip
          refine J_ldc (-2000000004) dX7_better_49 jw_903 ?_
          exact J_iret (ty := .int) hR dX7_better_51 rfl rfl (Nat.le_of_ble_eq_true rfl) (Nat.le_of_ble_eq_true rfl) (jRes_i (by first | (simp only [fX7_better, if_neg h1, if_pos h2, if_pos h4]; done) | rfl | (simp only [fX7_better, if_neg h1, if_pos h2, if_pos h4]; rfl)) rfl)
        · skip
          refine J_iconst (1) dX7_better_45 rfl ?_
          refine J_goto (tgt := 51) dX7_better_46 (by decide) ?_
          exact J_iret (ty := .int) hR dX7_better_51 rfl rfl (Nat.le_of_ble_eq_true rfl) (Nat.le_of_ble_eq_true rfl) (jRes_i (by first | (simp only [fX7_better, if_neg h1, if_pos h2, if_neg h4]; done) | rfl | (simp only [fX7_better, if_neg h1, if_pos h2, if_neg h4]; rfl)) rfl)
      · skip
        exact absurd h2 h3
    · skip
      refine J_iload_n dX7_better_29 rfl ?_
      refine J_if_ne (tgt := 52) dX7_better_30 (by decide) (fun h5 => ?_) (fun h5 => ?_)
      · skip
        refine J_aload_n dX7_better_52 rfl rfl ?_
        refine J_iload_n dX7_better_53 rfl ?_
        refine J_iconst (1) dX7_better_54 rfl ?_
        refine J_cV2r (mc := mX7_lastBy) hM.1 (by decide) rfl dX7_better_55 mlX7_87 okX7_lastBy (kX7_lastBy S I o x 1 hM (jisB hI h1)) (Nat.le_of_ble_eq_true rfl) (Nat.le_of_ble_eq_true rfl) (Nat.le_of_ble_eq_true rfl) (Nat.le_of_ble_eq_true rfl) ?_
        refine J_aload_n dX7_better_58 rfl rfl ?_
        refine J_iload_n dX7_better_59 rfl ?_
        refine J_iconst (0) dX7_better_60 rfl ?_
        refine J_cV2r (mc := mX7_lastBy) hM.1 (by decide) rfl dX7_better_61 mlX7_87 okX7_lastBy (kX7_lastBy S I o x 0 hM (jisB hI h1)) (Nat.le_of_ble_eq_true rfl) (Nat.le_of_ble_eq_true rfl) (Nat.le_of_ble_eq_true rfl) (Nat.le_of_ble_eq_true rfl) ?_
        refine J_isub dX7_better_64 ?_
        refine J_istore dX7_better_65 (Nat.le_of_ble_eq_true rfl) ?_
        refine J_aload_n dX7_better_67 rfl rfl ?_
        refine J_iload_n dX7_better_68 rfl ?_
        refine J_iconst (1) dX7_better_69 rfl ?_
        refine J_cV2r (mc := mX7_pressureBy) hM.1 (by decide) rfl dX7_better_70 mlX7_77 okX7_pressureBy (kX7_pressureBy S I o x 1 hM (jisB hI h1) (by unfold vp_in; decide)) (Nat.le_of_ble_eq_true rfl) (Nat.le_of_ble_eq_true rfl) (Nat.le_of_ble_eq_true rfl) (Nat.le_of_ble_eq_true rfl) ?_
        refine J_aload_n dX7_better_73 rfl rfl ?_
        refine J_iload_n dX7_better_74 rfl ?_
        refine J_iconst (0) dX7_better_75 rfl ?_
        refine J_cV2r (mc := mX7_pressureBy) hM.1 (by decide) rfl dX7_better_76 mlX7_77 okX7_pressureBy (kX7_pressureBy S I o x 0 hM (jisB hI h1) (by unfold vp_in; decide)) (Nat.le_of_ble_eq_true rfl) (Nat.le_of_ble_eq_true rfl) (Nat.le_of_ble_eq_true rfl) (Nat.le_of_ble_eq_true rfl) ?_
        refine J_isub dX7_better_79 ?_
        refine J_istore dX7_better_80 (Nat.le_of_ble_eq_true rfl) ?_
        refine J_iload dX7_better_82 rfl ?_
        refine J_if_gt (tgt := 97) dX7_better_84 (by decide) (fun h6 => ?_) (fun h6 => ?_)
        · skip
          refine J_iconst (1) dX7_better_97 rfl ?_
          refine J_goto (tgt := 102) dX7_better_98 (by decide) ?_
          exact J_iret (ty := .int) hR dX7_better_102 rfl rfl (Nat.le_of_ble_eq_true rfl) (Nat.le_of_ble_eq_true rfl) (jRes_i (by first | (simp only [fX7_better, if_neg h1, if_neg h2, if_neg h5, if_pos h6]; done) | rfl | (simp only [fX7_better, if_neg h1, if_neg h2, if_neg h5, if_pos h6]; rfl)) rfl)
        · skip
          refine J_iload dX7_better_87 rfl ?_
          refine J_if_ne (tgt := 101) dX7_better_89 (by decide) (fun h7 => ?_) (fun h7 => ?_)
          · skip
            refine J_iconst (0) dX7_better_101 rfl ?_
            exact J_iret (ty := .int) hR dX7_better_102 rfl rfl (Nat.le_of_ble_eq_true rfl) (Nat.le_of_ble_eq_true rfl) (jRes_i (by first | (simp only [fX7_better, if_neg h1, if_neg h2, if_neg h5, if_neg h6, if_neg h7]; done) | rfl | (simp only [fX7_better, if_neg h1, if_neg h2, if_neg h5, if_neg h6, if_neg h7]; rfl)) rfl)
          · skip
            refine J_iload dX7_better_92 rfl ?_
            refine J_if_le (tgt := 101) dX7_better_94 (by decide) (fun h8 => ?_) (fun h8 => ?_)
            · skip
              refine J_iconst (0) dX7_better_101 rfl ?_
              exact J_iret (ty := .int) hR dX7_better_102 rfl rfl (Nat.le_of_ble_eq_true rfl) (Nat.le_of_ble_eq_true rfl) (jRes_i (by first | (simp only [fX7_better, if_neg h1, if_neg h2, if_neg h5, if_neg h6, if_pos h7, if_pos h8]; done) | rfl | (simp only [fX7_better, if_neg h1, if_neg h2, if_neg h5, if_neg h6, if_pos h7, if_pos h8]; rfl)) rfl)
            · skip
              refine J_iconst (1) dX7_better_97 rfl ?_
              refine J_goto (tgt := 102) dX7_better_98 (by decide) ?_
              exact J_iret (ty := .int) hR dX7_better_102 rfl rfl (Nat.le_of_ble_eq_true rfl) (Nat.le_of_ble_eq_true rfl) (jRes_i (by first | (simp only [fX7_better, if_neg h1, if_neg h2, if_neg h5, if_neg h6, if_pos h7, if_neg h8]; done) | rfl | (simp only [fX7_better, if_neg h1, if_neg h2, if_neg h5, if_neg h6, if_pos h7, if_neg h8]; rfl)) rfl)
      · skip
        refine J_iload_n dX7_better_33 rfl ?_
        refine J_if_eq (tgt := 41) dX7_better_34 (by decide) (fun h9 => ?_) (fun h9 => ?_)
        · skip
          exact absurd h9 h2
        · skip
          refine J_iconst (0) dX7_better_37 rfl ?_
          refine J_goto (tgt := 51) dX7_better_38 (by decide) ?_
          exact J_iret (ty := .int) hR dX7_better_51 rfl rfl (Nat.le_of_ble_eq_true rfl) (Nat.le_of_ble_eq_true rfl) (jRes_i (by first | (simp only [fX7_better, if_neg h1, if_neg h2, if_pos h5]; done) | rfl | (simp only [fX7_better, if_neg h1, if_neg h2, if_pos h5]; rfl)) rfl)
  · skip
    refine J_ldc (-2000000001) dX7_better_8 jw_760 ?_
    exact J_iret (ty := .int) hR dX7_better_10 rfl rfl (Nat.le_of_ble_eq_true rfl) (Nat.le_of_ble_eq_true rfl) (jRes_i (by first | (simp only [fX7_better, if_pos h1]; done) | rfl | (simp only [fX7_better, if_pos h1]; rfl)) rfl)
def fX7_goesOn (I : jI) (o : Nat) (x : Int32) : Int32 :=
  if (fX7_isBoiler I o x) = 0 then
    (-2000000001)
  else
    if (fX7_of I o x 3) = 1 then
      if (fX7_of I o x 7) < 0 then
        (((fX7_of I o x 11) + 1) - (I (o + 1) ((2 : Int32).toNatClampNeg)))
      else
        if ((fX7_of I o x 11) + 1) ≤ (fX7_of I o x 7) then
          (((fX7_of I o x 11) + 1) - (I (o + 1) ((2 : Int32).toNatClampNeg)))
        else
          ((fX7_of I o x 7) - (I (o + 1) ((2 : Int32).toNatClampNeg)))
    else
      (-2000000002)
set_option maxRecDepth 100000 in
set_option maxHeartbeats 4000000 in
theorem kX7_goesOn (S : jX) (I : jI) (o : Nat) (x : Int32) (hM : jModel S o) (hI : jMInv I o) : jM (2, 0, 0) mX7_goesOn [.ref o, .int x] S I (jRes (some (.int (fX7_goesOn I o x))) S I) := by
  refine jM.of (ls := [.ref o, .int x, .long 0, .long 0]) (by decide) (Nat.le_of_ble_eq_true rfl) (by intro v hv; simp only [List.mem_cons, List.not_mem_nil, or_false] at hv; rcases hv with rfl | rfl <;> rfl) rfl (fun G hR => ?_)
  refine J_aload_n dX7_goesOn_0 rfl rfl ?_
  refine J_iload_n dX7_goesOn_1 rfl ?_
  refine J_cV1r (mc := mX7_isBoiler) hM.1 (by decide) rfl dX7_goesOn_2 mlX7_67 okX7_isBoiler (kX7_isBoiler S I o x hM) (Nat.le_of_ble_eq_true rfl) (Nat.le_of_ble_eq_true rfl) (Nat.le_of_ble_eq_true rfl) (Nat.le_of_ble_eq_true rfl) ?_
  refine J_if_ne (tgt := 11) dX7_goesOn_5 (by decide) (fun h1 => ?_) (fun h1 => ?_)
  · skip
    refine J_aload_n dX7_goesOn_11 rfl rfl ?_
    refine J_iload_n dX7_goesOn_12 rfl ?_
    refine J_iconst (3) dX7_goesOn_13 rfl ?_
    refine J_cV2r (mc := mX7_of) hM.1 (by decide) rfl dX7_goesOn_14 mlX7_34 okX7_of (kX7_of S I o x 3 hM (jofv (jisB hI h1) (k := 3) rfl (by decide))) (Nat.le_of_ble_eq_true rfl) (Nat.le_of_ble_eq_true rfl) (Nat.le_of_ble_eq_true rfl) (Nat.le_of_ble_eq_true rfl) ?_
    refine J_iconst (1) dX7_goesOn_17 rfl ?_
    refine J_icmp_eq (tgt := 24) dX7_goesOn_18 (by decide) (fun h2 => ?_) (fun h2 => ?_)
    · skip
      refine J_aload_n dX7_goesOn_24 rfl rfl ?_
      refine J_iload_n dX7_goesOn_25 rfl ?_
      refine J_bipush (11) dX7_goesOn_26 rfl ?_
      refine J_cV2r (mc := mX7_of) hM.1 (by decide) rfl dX7_goesOn_28 mlX7_34 okX7_of (kX7_of S I o x 11 hM (jofv (jisB hI h1) (k := 11) rfl (by decide))) (Nat.le_of_ble_eq_true rfl) (Nat.le_of_ble_eq_true rfl) (Nat.le_of_ble_eq_true rfl) (Nat.le_of_ble_eq_true rfl) ?_
      refine J_iconst (1) dX7_goesOn_31 rfl ?_
      refine J_iadd dX7_goesOn_32 ?_
      refine J_istore_n dX7_goesOn_33 (Nat.le_of_ble_eq_true rfl) ?_
      refine J_aload_n dX7_goesOn_34 rfl rfl ?_
      refine J_iload_n dX7_goesOn_35 rfl ?_
      refine J_bipush (7) dX7_goesOn_36 rfl ?_
      refine J_cV2r (mc := mX7_of) hM.1 (by decide) rfl dX7_goesOn_38 mlX7_34 okX7_of (kX7_of S I o x 7 hM (jofv (jisB hI h1) (k := 7) rfl (by decide))) (Nat.le_of_ble_eq_true rfl) (Nat.le_of_ble_eq_true rfl) (Nat.le_of_ble_eq_true rfl) (Nat.le_of_ble_eq_true rfl) ?_
      refine J_if_lt (tgt := 59) dX7_goesOn_41 (by decide) (fun h3 => ?_) (fun h3 => ?_)
      · skip
        refine J_iconst (0) dX7_goesOn_59 rfl ?_
        refine J_istore_n dX7_goesOn_60 (Nat.le_of_ble_eq_true rfl) ?_
        refine J_iload_n dX7_goesOn_61 rfl ?_
        refine J_if_eq (tgt := 75) dX7_goesOn_62 (by decide) (fun h4 => ?_) (fun h4 => ?_)
        · skip
          refine J_iload_n dX7_goesOn_75 rfl ?_
          refine J_aload_n dX7_goesOn_76 rfl rfl ?_
          refine J_getR dX7_goesOn_77 flX7_7 rfl hM.1 hM.r0 ?_
          refine J_iconst (2) dX7_goesOn_80 rfl ?_
          refine J_iaload dX7_goesOn_81 hM.a0 (by unfold vp_in; decide) ?_
          refine J_isub dX7_goesOn_82 ?_
          exact J_iret (ty := .int) hR dX7_goesOn_83 rfl rfl (Nat.le_of_ble_eq_true rfl) (Nat.le_of_ble_eq_true rfl) (jRes_i (by first | (simp only [fX7_goesOn, if_neg h1, if_pos h2, if_pos h3]; done) | rfl | (simp only [fX7_goesOn, if_neg h1, if_pos h2, if_pos h3]; rfl)) rfl)
        · skip
          exact absurd h4 (by decide)
      · skip
        refine J_aload_n dX7_goesOn_44 rfl rfl ?_
        refine J_iload_n dX7_goesOn_45 rfl ?_
        refine J_bipush (7) dX7_goesOn_46 rfl ?_
        refine J_cV2r (mc := mX7_of) hM.1 (by decide) rfl dX7_goesOn_48 mlX7_34 okX7_of (kX7_of S I o x 7 hM (jofv (jisB hI h1) (k := 7) rfl (by decide))) (Nat.le_of_ble_eq_true rfl) (Nat.le_of_ble_eq_true rfl) (Nat.le_of_ble_eq_true rfl) (Nat.le_of_ble_eq_true rfl) ?_
        refine J_iload_n dX7_goesOn_51 rfl ?_
        refine J_icmp_ge (tgt := 59) dX7_goesOn_52 (by decide) (fun h5 => ?_) (fun h5 => ?_)
        · skip
          refine J_iconst (0) dX7_goesOn_59 rfl ?_
          refine J_istore_n dX7_goesOn_60 (Nat.le_of_ble_eq_true rfl) ?_
          refine J_iload_n dX7_goesOn_61 rfl ?_
          refine J_if_eq (tgt := 75) dX7_goesOn_62 (by decide) (fun h6 => ?_) (fun h6 => ?_)
          · skip
            refine J_iload_n dX7_goesOn_75 rfl ?_
            refine J_aload_n dX7_goesOn_76 rfl rfl ?_
            refine J_getR dX7_goesOn_77 flX7_7 rfl hM.1 hM.r0 ?_
            refine J_iconst (2) dX7_goesOn_80 rfl ?_
            refine J_iaload dX7_goesOn_81 hM.a0 (by unfold vp_in; decide) ?_
            refine J_isub dX7_goesOn_82 ?_
            exact J_iret (ty := .int) hR dX7_goesOn_83 rfl rfl (Nat.le_of_ble_eq_true rfl) (Nat.le_of_ble_eq_true rfl) (jRes_i (by first | (simp only [fX7_goesOn, if_neg h1, if_pos h2, if_neg h3, if_pos h5]; done) | rfl | (simp only [fX7_goesOn, if_neg h1, if_pos h2, if_neg h3, if_pos h5]; rfl)) rfl)
          · skip
            exact absurd h6 (by decide)
        · skip
          refine J_iconst (1) dX7_goesOn_55 rfl ?_
          refine J_goto (tgt := 60) dX7_goesOn_56 (by decide) ?_
          refine J_istore_n dX7_goesOn_60 (Nat.le_of_ble_eq_true rfl) ?_
          refine J_iload_n dX7_goesOn_61 rfl ?_
          refine J_if_eq (tgt := 75) dX7_goesOn_62 (by decide) (fun h7 => ?_) (fun h7 => ?_)
          · skip
            exact absurd h7 (by decide)
          · skip
            refine J_aload_n dX7_goesOn_65 rfl rfl ?_
            refine J_iload_n dX7_goesOn_66 rfl ?_
            refine J_bipush (7) dX7_goesOn_67 rfl ?_
            refine J_cV2r (mc := mX7_of) hM.1 (by decide) rfl dX7_goesOn_69 mlX7_34 okX7_of (kX7_of S I o x 7 hM (jofv (jisB hI h1) (k := 7) rfl (by decide))) (Nat.le_of_ble_eq_true rfl) (Nat.le_of_ble_eq_true rfl) (Nat.le_of_ble_eq_true rfl) (Nat.le_of_ble_eq_true rfl) ?_
            refine J_goto (tgt := 76) dX7_goesOn_72 (by decide) ?_
            refine J_aload_n dX7_goesOn_76 rfl rfl ?_
            refine J_getR dX7_goesOn_77 flX7_7 rfl hM.1 hM.r0 ?_
            refine J_iconst (2) dX7_goesOn_80 rfl ?_
            refine J_iaload dX7_goesOn_81 hM.a0 (by unfold vp_in; decide) ?_
            refine J_isub dX7_goesOn_82 ?_
            exact J_iret (ty := .int) hR dX7_goesOn_83 rfl rfl (Nat.le_of_ble_eq_true rfl) (Nat.le_of_ble_eq_true rfl) (jRes_i (by first | (simp only [fX7_goesOn, if_neg h1, if_pos h2, if_neg h3, if_neg h5]; done) | rfl | (simp only [fX7_goesOn, if_neg h1, if_pos h2, if_neg h3, if_neg h5]; rfl)) rfl)
    · skip
      refine J_ldc (-2000000002) dX7_goesOn_21 jw_790 ?_
      exact J_iret (ty := .int) hR dX7_goesOn_23 rfl rfl (Nat.le_of_ble_eq_true rfl) (Nat.le_of_ble_eq_true rfl) (jRes_i (by first | (simp only [fX7_goesOn, if_neg h1, if_neg h2]; done) | rfl | (simp only [fX7_goesOn, if_neg h1, if_neg h2]; rfl)) rfl)
  · skip
    refine J_ldc (-2000000001) dX7_goesOn_8 jw_760 ?_
    exact J_iret (ty := .int) hR dX7_goesOn_10 rfl rfl (Nat.le_of_ble_eq_true rfl) (Nat.le_of_ble_eq_true rfl) (jRes_i (by first | (simp only [fX7_goesOn, if_pos h1]; done) | rfl | (simp only [fX7_goesOn, if_pos h1]; rfl)) rfl)
def fX7_clearText (I : jI) (o : Nat) : Int32 × jI :=
  ((I o 5), (jset I o 5 0))
set_option maxRecDepth 100000 in
set_option maxHeartbeats 4000000 in
theorem kX7_clearText (S : jX) (I : jI) (o : Nat) (hM : jModel S o) : jM (0, 0, 0) mX7_clearText [.ref o] S I (jRes (some (.int (fX7_clearText I o).1)) S (fX7_clearText I o).2) := by
  refine jM.of (ls := [.ref o, .long 0]) (by decide) (Nat.le_of_ble_eq_true rfl) (by intro v hv; simp only [List.mem_cons, List.not_mem_nil, or_false] at hv; rcases hv with rfl <;> rfl) rfl (fun G hR => ?_)
  refine J_aload_n dX7_clearText_0 rfl rfl ?_
  refine J_getI dX7_clearText_1 flX7_135 rfl hM.1 ?_
  refine J_istore_n dX7_clearText_4 (Nat.le_of_ble_eq_true rfl) ?_
  refine J_aload_n dX7_clearText_5 rfl rfl ?_
  refine J_iconst (0) dX7_clearText_6 rfl ?_
  refine J_putI dX7_clearText_7 flX7_135 rfl rfl rfl rfl hM.1 ?_
  refine J_iload_n dX7_clearText_10 rfl ?_
  exact J_iret (ty := .int) hR dX7_clearText_11 rfl rfl (Nat.le_of_ble_eq_true rfl) (Nat.le_of_ble_eq_true rfl) (jRes_f (by first | (simp only [fX7_clearText]; done) | rfl | (simp only [fX7_clearText]; rfl)))
def fX7_isOrder (I : jI) (x : Int32) : Int32 :=
  if x = 98 then
    1
  else
    if x = 105 then
      1
    else
      if x = 102 then
        1
      else
        if x = 111 then
          1
        else
          if x = 114 then
            1
          else
            if x = 119 then
              1
            else
              0
set_option maxRecDepth 100000 in
set_option maxHeartbeats 4000000 in
theorem kX7_isOrder (S : jX) (I : jI) (x : Int32)  : jM (0, 0, 0) mX7_isOrder [.int x] S I (jRes (some (.int (fX7_isOrder I x))) S I) := by
  refine jM.of (ls := [.int x]) (by decide) (Nat.le_of_ble_eq_true rfl) (by intro v hv; simp only [List.mem_cons, List.not_mem_nil, or_false] at hv; rcases hv with rfl <;> rfl) rfl (fun G hR => ?_)
  refine J_iload_n dX7_isOrder_0 rfl ?_
  refine J_bipush (98) dX7_isOrder_1 rfl ?_
  refine J_icmp_eq (tgt := 36) dX7_isOrder_3 (by decide) (fun h1 => ?_) (fun h1 => ?_)
  · skip
    refine J_iconst (1) dX7_isOrder_36 rfl ?_
    refine J_goto (tgt := 41) dX7_isOrder_37 (by decide) ?_
    exact J_iret (ty := .boolean) hR dX7_isOrder_41 rfl rfl (Nat.le_of_ble_eq_true rfl) (Nat.le_of_ble_eq_true rfl) (jRes_i (by first | (simp only [fX7_isOrder, if_pos h1]; done) | rfl | (simp only [fX7_isOrder, if_pos h1]; rfl)) rfl)
  · skip
    refine J_iload_n dX7_isOrder_6 rfl ?_
    refine J_bipush (105) dX7_isOrder_7 rfl ?_
    refine J_icmp_eq (tgt := 36) dX7_isOrder_9 (by decide) (fun h2 => ?_) (fun h2 => ?_)
    · skip
      refine J_iconst (1) dX7_isOrder_36 rfl ?_
      refine J_goto (tgt := 41) dX7_isOrder_37 (by decide) ?_
      exact J_iret (ty := .boolean) hR dX7_isOrder_41 rfl rfl (Nat.le_of_ble_eq_true rfl) (Nat.le_of_ble_eq_true rfl) (jRes_i (by first | (simp only [fX7_isOrder, if_neg h1, if_pos h2]; done) | rfl | (simp only [fX7_isOrder, if_neg h1, if_pos h2]; rfl)) rfl)
    · skip
      refine J_iload_n dX7_isOrder_12 rfl ?_
      refine J_bipush (102) dX7_isOrder_13 rfl ?_
      refine J_icmp_eq (tgt := 36) dX7_isOrder_15 (by decide) (fun h3 => ?_) (fun h3 => ?_)
      · skip
        refine J_iconst (1) dX7_isOrder_36 rfl ?_
        refine J_goto (tgt := 41) dX7_isOrder_37 (by decide) ?_
        exact J_iret (ty := .boolean) hR dX7_isOrder_41 rfl rfl (Nat.le_of_ble_eq_true rfl) (Nat.le_of_ble_eq_true rfl) (jRes_i (by first | (simp only [fX7_isOrder, if_neg h1, if_neg h2, if_pos h3]; done) | rfl | (simp only [fX7_isOrder, if_neg h1, if_neg h2, if_pos h3]; rfl)) rfl)
      · skip
        refine J_iload_n dX7_isOrder_18 rfl ?_
        refine J_bipush (111) dX7_isOrder_19 rfl ?_
        refine J_icmp_eq (tgt := 36) dX7_isOrder_21 (by decide) (fun h4 => ?_) (fun h4 => ?_)
        · skip
          refine J_iconst (1) dX7_isOrder_36 rfl ?_
          refine J_goto (tgt := 41) dX7_isOrder_37 (by decide) ?_
          exact J_iret (ty := .boolean) hR dX7_isOrder_41 rfl rfl (Nat.le_of_ble_eq_true rfl) (Nat.le_of_ble_eq_true rfl) (jRes_i (by first | (simp only [fX7_isOrder, if_neg h1, if_neg h2, if_neg h3, if_pos h4]; done) | rfl | (simp only [fX7_isOrder, if_neg h1, if_neg h2, if_neg h3, if_pos h4]; rfl)) rfl)
        · skip
          refine J_iload_n dX7_isOrder_24 rfl ?_
          refine J_bipush (114) dX7_isOrder_25 rfl ?_
          refine J_icmp_eq (tgt := 36) dX7_isOrder_27 (by decide) (fun h5 => ?_) (fun h5 => ?_)
          · skip
            refine J_iconst (1) dX7_isOrder_36 rfl ?_
            refine J_goto (tgt := 41) dX7_isOrder_37 (by decide) ?_
            exact J_iret (ty := .boolean) hR dX7_isOrder_41 rfl rfl (Nat.le_of_ble_eq_true rfl) (Nat.le_of_ble_eq_true rfl) (jRes_i (by first | (simp only [fX7_isOrder, if_neg h1, if_neg h2, if_neg h3, if_neg h4, if_pos h5]; done) | rfl | (simp only [fX7_isOrder, if_neg h1, if_neg h2, if_neg h3, if_neg h4, if_pos h5]; rfl)) rfl)
          · skip
            refine J_iload_n dX7_isOrder_30 rfl ?_
            refine J_bipush (119) dX7_isOrder_31 rfl ?_
            refine J_icmp_ne (tgt := 40) dX7_isOrder_33 (by decide) (fun h6 => ?_) (fun h6 => ?_)
            · skip
              refine J_iconst (0) dX7_isOrder_40 rfl ?_
              exact J_iret (ty := .boolean) hR dX7_isOrder_41 rfl rfl (Nat.le_of_ble_eq_true rfl) (Nat.le_of_ble_eq_true rfl) (jRes_i (by first | (simp only [fX7_isOrder, if_neg h1, if_neg h2, if_neg h3, if_neg h4, if_neg h5, if_neg h6]; done) | rfl | (simp only [fX7_isOrder, if_neg h1, if_neg h2, if_neg h3, if_neg h4, if_neg h5, if_neg h6]; rfl)) rfl)
            · skip
              refine J_iconst (1) dX7_isOrder_36 rfl ?_
              refine J_goto (tgt := 41) dX7_isOrder_37 (by decide) ?_
              exact J_iret (ty := .boolean) hR dX7_isOrder_41 rfl rfl (Nat.le_of_ble_eq_true rfl) (Nat.le_of_ble_eq_true rfl) (jRes_i (by first | (simp only [fX7_isOrder, if_neg h1, if_neg h2, if_neg h3, if_neg h4, if_neg h5, if_pos h6]; done) | rfl | (simp only [fX7_isOrder, if_neg h1, if_neg h2, if_neg h3, if_neg h4, if_neg h5, if_pos h6]; rfl)) rfl)
