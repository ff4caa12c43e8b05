/-- the class's objects: itself at 0, now at 1, trial at 20, history at 39 (its states at 41, 60, 79, 98), text at 117, rehearsal at 119 -/
def jTop (S : jX) : Prop := jKd S 0 6 0 ∧ (S.2.2 0 0 = some 1 ∧ S.2.2 0 1 = some 20 ∧ S.2.2 0 2 = some 39 ∧ S.2.2 0 3 = some 117 ∧ S.2.2 0 4 = some 119) ∧ jHouse S 1 ∧ jHouse S 20 ∧ jHist S 39 ∧ jText S 117 ∧ jKd S 119 5 0
def jSet (J : jI) (x : Int32) (k : Nat) : Prop := k < 4 ∧ J 39 2 = nI k ∧ jHInv J 1 ∧ (fX6_isError J x = 0 → jHInv (fX1_keep J 39 1 k) 20)
def fX6_settle (I : jI) (x : Int32) (k : Nat) : Int32 × jI := if fX6_isError I x = 0 then (x, fX2_copyFrom (fX1_keep I 39 1 k) 1 20) else (x, I)
set_option maxRecDepth 100000 in
set_option maxHeartbeats 4000000 in
theorem kX6_trialOfNow (S : jX) (I : jI) (hP : jTop S) (hI : jHInv I 1) : jM (2, 0, 0) mX6_trialOfNow [.ref 0] S I (jRes (some (.ref 20)) S (fX2_copyFrom I 20 1)) := by
  refine jM.of (ls := [.ref 0]) (by decide) (Nat.le_of_ble_eq_true rfl) (by intro v hv; simp only [List.mem_cons, List.not_mem_nil, or_false] at hv; rcases hv with rfl <;> rfl) rfl (fun G hR => ?_)
  refine J_aload_n dX6_trialOfNow_0 rfl rfl ?_
  refine J_getR dX6_trialOfNow_1 flX6_16 rfl hP.1 hP.2.1.2.1 ?_
  refine J_aload_n dX6_trialOfNow_4 rfl rfl ?_
  refine J_getR dX6_trialOfNow_5 flX6_10 rfl hP.1 hP.2.1.1 ?_
  refine J_cV1 (mc := mX2_copyFrom) hP.2.2.2.1.1 (by decide) rfl dX6_trialOfNow_8 mlX6_144 okX2_copyFrom (kX2_copyFrom S I 20 1 hP.2.2.2.1 hP.2.2.1 (by unfold jApart; omega) hI) (Nat.le_of_ble_eq_true rfl) (Nat.le_of_ble_eq_true rfl) (Nat.le_of_ble_eq_true rfl) (Nat.le_of_ble_eq_true rfl) ?_
  refine J_aload_n dX6_trialOfNow_11 rfl rfl ?_
  refine J_getR dX6_trialOfNow_12 flX6_16 rfl hP.1 hP.2.1.2.1 ?_
  exact J_aret (C := "BoilerPapers$House") hR dX6_trialOfNow_15 rfl rfl (Nat.le_of_ble_eq_true rfl) (Nat.le_of_ble_eq_true rfl) ⟨rfl, rfl, rfl⟩
set_option maxRecDepth 100000 in
set_option maxHeartbeats 4000000 in
theorem kX6_settle (S : jX) (I : jI) (x : Int32) (k : Nat) (hP : jTop S) (hS : jSet I x k) : jM (3, 0, 0) mX6_settle [.ref 0, .int x] S I (jRes (some (.int (fX6_settle I x k).1)) S (fX6_settle I x k).2) := by
  refine jM.of (ls := [.ref 0, .int x]) (by decide) (Nat.le_of_ble_eq_true rfl) (by intro v hv; simp only [List.mem_cons, List.not_mem_nil, or_false] at hv; rcases hv with rfl | rfl <;> rfl) rfl (fun G hR => ?_)
  refine J_iload_n dX6_settle_0 rfl ?_
  refine J_cS1r (mc := mX6_isError) dX6_settle_1 mlX6_148 okX6_isError (kX6_isError S I x ) (Nat.le_of_ble_eq_true rfl) (Nat.le_of_ble_eq_true rfl) (Nat.le_of_ble_eq_true rfl) (Nat.le_of_ble_eq_true rfl) ?_
  refine J_if_ne (tgt := 29) dX6_settle_4 (by decide) (fun h1 => ?_) (fun h1 => ?_)
  · skip
    refine J_iload_n dX6_settle_29 rfl ?_
    exact J_iret (ty := .int) hR dX6_settle_30 rfl rfl (Nat.le_of_ble_eq_true rfl) (Nat.le_of_ble_eq_true rfl) (jRes_f (by first | (simp only [fX6_settle, if_neg h1]; done) | rfl | (simp only [fX6_settle, if_neg h1]; rfl)))
  · skip
    refine J_aload_n dX6_settle_7 rfl rfl ?_
    refine J_getR dX6_settle_8 flX6_22 rfl hP.1 hP.2.1.2.2.1 ?_
    refine J_aload_n dX6_settle_11 rfl rfl ?_
    refine J_getR dX6_settle_12 flX6_10 rfl hP.1 hP.2.1.1 ?_
    refine J_cV1 (mc := mX1_keep) hP.2.2.2.2.1.1 (by decide) rfl dX6_settle_15 mlX6_152 okX1_keep (kX1_keep S I 39 1 k hP.2.2.2.2.1 hP.2.2.1 hS.1 (by unfold jApart; omega) hS.2.2.1 hS.2.1) (Nat.le_of_ble_eq_true rfl) (Nat.le_of_ble_eq_true rfl) (Nat.le_of_ble_eq_true rfl) (Nat.le_of_ble_eq_true rfl) ?_
    refine J_aload_n dX6_settle_18 rfl rfl ?_
    refine J_getR dX6_settle_19 flX6_10 rfl hP.1 hP.2.1.1 ?_
    refine J_aload_n dX6_settle_22 rfl rfl ?_
    refine J_getR dX6_settle_23 flX6_16 rfl hP.1 hP.2.1.2.1 ?_
    refine J_cV1 (mc := mX2_copyFrom) hP.2.2.1.1 (by decide) rfl dX6_settle_26 mlX6_144 okX2_copyFrom (kX2_copyFrom S (fX1_keep I 39 1 k) 1 20 hP.2.2.1 hP.2.2.2.1 (by unfold jApart; omega) (hS.2.2.2 h1)) (Nat.le_of_ble_eq_true rfl) (Nat.le_of_ble_eq_true rfl) (Nat.le_of_ble_eq_true rfl) (Nat.le_of_ble_eq_true rfl) ?_
    refine J_iload_n dX6_settle_29 rfl ?_
    exact J_iret (ty := .int) hR dX6_settle_30 rfl rfl (Nat.le_of_ble_eq_true rfl) (Nat.le_of_ble_eq_true rfl) (jRes_f (by first | (simp only [fX6_settle, if_pos h1]; done) | rfl | (simp only [fX6_settle, if_pos h1]; rfl)))
def fX6_boiler (I : jI) (x : Int32) (k : Nat) : Int32 × jI :=
  ((fX6_settle ((fX2_addBoiler (fX2_copyFrom I 20 1) 20 x).2) ((fX2_addBoiler (fX2_copyFrom I 20 1) 20 x).1) k).1, (fX6_settle ((fX2_addBoiler (fX2_copyFrom I 20 1) 20 x).2) ((fX2_addBoiler (fX2_copyFrom I 20 1) 20 x).1) k).2)
set_option maxRecDepth 100000 in
set_option maxHeartbeats 4000000 in
theorem kX6_boiler (S : jX) (I : jI) (x : Int32) (k : Nat) (hP : jTop S) (hI : jHInv I 1)  (hS : jSet (fX2_addBoiler (fX2_copyFrom I 20 1) 20 x).2 (fX2_addBoiler (fX2_copyFrom I 20 1) 20 x).1 k) : jM (4, 0, 0) mX6_boiler [.ref 0, .int x] S I (jRes (some (.int (fX6_boiler I x k).1)) S (fX6_boiler I x k).2) := by
  refine jM.of (ls := [.ref 0, .int x]) (by decide) (Nat.le_of_ble_eq_true rfl) (by intro v hv; simp only [List.mem_cons, List.not_mem_nil, or_false] at hv; rcases hv with rfl | rfl <;> rfl) rfl (fun G hR => ?_)
  refine J_aload_n dX6_boiler_0 rfl rfl ?_
  refine J_aload_n dX6_boiler_1 rfl rfl ?_
  refine J_cV0r (mc := mX6_trialOfNow) hP.1 (by decide) rfl dX6_boiler_2 mlX6_40 okX6_trialOfNow (kX6_trialOfNow S I hP hI) (Nat.le_of_ble_eq_true rfl) (Nat.le_of_ble_eq_true rfl) (Nat.le_of_ble_eq_true rfl) (Nat.le_of_ble_eq_true rfl) ?_
  refine J_iload_n dX6_boiler_5 rfl ?_
  refine J_cV1r (mc := mX2_addBoiler) hP.2.2.2.1.1 (by decide) rfl dX6_boiler_6 mlX6_44 okX2_addBoiler (kX2_addBoiler S (fX2_copyFrom I 20 1) 20 x hP.2.2.2.1) (Nat.le_of_ble_eq_true rfl) (Nat.le_of_ble_eq_true rfl) (Nat.le_of_ble_eq_true rfl) (Nat.le_of_ble_eq_true rfl) ?_
  refine J_cV1r (mc := mX6_settle) hP.1 (by decide) rfl dX6_boiler_9 mlX6_48 okX6_settle (kX6_settle S ((fX2_addBoiler (fX2_copyFrom I 20 1) 20 x).2) ((fX2_addBoiler (fX2_copyFrom I 20 1) 20 x).1) k hP hS) (Nat.le_of_ble_eq_true rfl) (Nat.le_of_ble_eq_true rfl) (Nat.le_of_ble_eq_true rfl) (Nat.le_of_ble_eq_true rfl) ?_
  exact J_iret (ty := .int) hR dX6_boiler_12 rfl rfl (Nat.le_of_ble_eq_true rfl) (Nat.le_of_ble_eq_true rfl) (jRes_f (by first | (simp only [fX6_boiler]; done) | rfl | (simp only [fX6_boiler]; rfl)))
def fX6_inspector (I : jI) (x : Int32) (y : Int32) (k : Nat) : Int32 × jI :=
  ((fX6_settle ((fX2_addInspector (fX2_copyFrom I 20 1) 20 x y).2) ((fX2_addInspector (fX2_copyFrom I 20 1) 20 x y).1) k).1, (fX6_settle ((fX2_addInspector (fX2_copyFrom I 20 1) 20 x y).2) ((fX2_addInspector (fX2_copyFrom I 20 1) 20 x y).1) k).2)
set_option maxRecDepth 100000 in
set_option maxHeartbeats 4000000 in
theorem kX6_inspector (S : jX) (I : jI) (x : Int32) (y : Int32) (k : Nat) (hP : jTop S) (hI : jHInv I 1)  (hS : jSet (fX2_addInspector (fX2_copyFrom I 20 1) 20 x y).2 (fX2_addInspector (fX2_copyFrom I 20 1) 20 x y).1 k) : jM (4, 0, 0) mX6_inspector [.ref 0, .int x, .int y] S I (jRes (some (.int (fX6_inspector I x y k).1)) S (fX6_inspector I x y k).2) := by
  refine jM.of (ls := [.ref 0, .int x, .int y]) (by decide) (Nat.le_of_ble_eq_true rfl) (by intro v hv; simp only [List.mem_cons, List.not_mem_nil, or_false] at hv; rcases hv with rfl | rfl | rfl <;> rfl) rfl (fun G hR => ?_)
  refine J_aload_n dX6_inspector_0 rfl rfl ?_
  refine J_aload_n dX6_inspector_1 rfl rfl ?_
  refine J_cV0r (mc := mX6_trialOfNow) hP.1 (by decide) rfl dX6_inspector_2 mlX6_40 okX6_trialOfNow (kX6_trialOfNow S I hP hI) (Nat.le_of_ble_eq_true rfl) (Nat.le_of_ble_eq_true rfl) (Nat.le_of_ble_eq_true rfl) (Nat.le_of_ble_eq_true rfl) ?_
  refine J_iload_n dX6_inspector_5 rfl ?_
  refine J_iload_n dX6_inspector_6 rfl ?_
  refine J_cV2r (mc := mX2_addInspector) hP.2.2.2.1.1 (by decide) rfl dX6_inspector_7 mlX6_51 okX2_addInspector (kX2_addInspector S (fX2_copyFrom I 20 1) 20 x y hP.2.2.2.1) (Nat.le_of_ble_eq_true rfl) (Nat.le_of_ble_eq_true rfl) (Nat.le_of_ble_eq_true rfl) (Nat.le_of_ble_eq_true rfl) ?_
  refine J_cV1r (mc := mX6_settle) hP.1 (by decide) rfl dX6_inspector_10 mlX6_48 okX6_settle (kX6_settle S ((fX2_addInspector (fX2_copyFrom I 20 1) 20 x y).2) ((fX2_addInspector (fX2_copyFrom I 20 1) 20 x y).1) k hP hS) (Nat.le_of_ble_eq_true rfl) (Nat.le_of_ble_eq_true rfl) (Nat.le_of_ble_eq_true rfl) (Nat.le_of_ble_eq_true rfl) ?_
  exact J_iret (ty := .int) hR dX6_inspector_13 rfl rfl (Nat.le_of_ble_eq_true rfl) (Nat.le_of_ble_eq_true rfl) (jRes_f (by first | (simp only [fX6_inspector]; done) | rfl | (simp only [fX6_inspector]; rfl)))
def fX6_press (I : jI) (x : Int32) (y : Int32) (k : Nat) : Int32 × jI :=
  ((fX6_settle ((fX2_changePressure (fX2_copyFrom I 20 1) 20 x y).2) ((fX2_changePressure (fX2_copyFrom I 20 1) 20 x y).1) k).1, (fX6_settle ((fX2_changePressure (fX2_copyFrom I 20 1) 20 x y).2) ((fX2_changePressure (fX2_copyFrom I 20 1) 20 x y).1) k).2)
set_option maxRecDepth 100000 in
set_option maxHeartbeats 4000000 in
theorem kX6_press (S : jX) (I : jI) (x : Int32) (y : Int32) (k : Nat) (hP : jTop S) (hI : jHInv I 1)  (hS : jSet (fX2_changePressure (fX2_copyFrom I 20 1) 20 x y).2 (fX2_changePressure (fX2_copyFrom I 20 1) 20 x y).1 k) : jM (4, 0, 0) mX6_press [.ref 0, .int x, .int y] S I (jRes (some (.int (fX6_press I x y k).1)) S (fX6_press I x y k).2) := by
  refine jM.of (ls := [.ref 0, .int x, .int y]) (by decide) (Nat.le_of_ble_eq_true rfl) (by intro v hv; simp only [List.mem_cons, List.not_mem_nil, or_false] at hv; rcases hv with rfl | rfl | rfl <;> rfl) rfl (fun G hR => ?_)
  refine J_aload_n dX6_press_0 rfl rfl ?_
  refine J_aload_n dX6_press_1 rfl rfl ?_
  refine J_cV0r (mc := mX6_trialOfNow) hP.1 (by decide) rfl dX6_press_2 mlX6_40 okX6_trialOfNow (kX6_trialOfNow S I hP hI) (Nat.le_of_ble_eq_true rfl) (Nat.le_of_ble_eq_true rfl) (Nat.le_of_ble_eq_true rfl) (Nat.le_of_ble_eq_true rfl) ?_
  refine J_iload_n dX6_press_5 rfl ?_
  refine J_iload_n dX6_press_6 rfl ?_
  refine J_cV2r (mc := mX2_changePressure) hP.2.2.2.1.1 (by decide) rfl dX6_press_7 mlX6_55 okX2_changePressure (kX2_changePressure S (fX2_copyFrom I 20 1) 20 x y hP.2.2.2.1) (Nat.le_of_ble_eq_true rfl) (Nat.le_of_ble_eq_true rfl) (Nat.le_of_ble_eq_true rfl) (Nat.le_of_ble_eq_true rfl) ?_
  refine J_cV1r (mc := mX6_settle) hP.1 (by decide) rfl dX6_press_10 mlX6_48 okX6_settle (kX6_settle S ((fX2_changePressure (fX2_copyFrom I 20 1) 20 x y).2) ((fX2_changePressure (fX2_copyFrom I 20 1) 20 x y).1) k hP hS) (Nat.le_of_ble_eq_true rfl) (Nat.le_of_ble_eq_true rfl) (Nat.le_of_ble_eq_true rfl) (Nat.le_of_ble_eq_true rfl) ?_
  exact J_iret (ty := .int) hR dX6_press_13 rfl rfl (Nat.le_of_ble_eq_true rfl) (Nat.le_of_ble_eq_true rfl) (jRes_f (by first | (simp only [fX6_press]; done) | rfl | (simp only [fX6_press]; rfl)))
def fX6_inspect (I : jI) (x : Int32) (y : Int32) (k : Nat) : Int32 × jI :=
  ((fX6_settle ((fX2_examine (fX2_copyFrom I 20 1) 20 x y).2) ((fX2_examine (fX2_copyFrom I 20 1) 20 x y).1) k).1, (fX6_settle ((fX2_examine (fX2_copyFrom I 20 1) 20 x y).2) ((fX2_examine (fX2_copyFrom I 20 1) 20 x y).1) k).2)
set_option maxRecDepth 100000 in
set_option maxHeartbeats 4000000 in
theorem kX6_inspect (S : jX) (I : jI) (x : Int32) (y : Int32) (k : Nat) (hP : jTop S) (hI : jHInv I 1)  (hS : jSet (fX2_examine (fX2_copyFrom I 20 1) 20 x y).2 (fX2_examine (fX2_copyFrom I 20 1) 20 x y).1 k) : jM (4, 0, 0) mX6_inspect [.ref 0, .int x, .int y] S I (jRes (some (.int (fX6_inspect I x y k).1)) S (fX6_inspect I x y k).2) := by
  refine jM.of (ls := [.ref 0, .int x, .int y]) (by decide) (Nat.le_of_ble_eq_true rfl) (by intro v hv; simp only [List.mem_cons, List.not_mem_nil, or_false] at hv; rcases hv with rfl | rfl | rfl <;> rfl) rfl (fun G hR => ?_)
  refine J_aload_n dX6_inspect_0 rfl rfl ?_
  refine J_aload_n dX6_inspect_1 rfl rfl ?_
  refine J_cV0r (mc := mX6_trialOfNow) hP.1 (by decide) rfl dX6_inspect_2 mlX6_40 okX6_trialOfNow (kX6_trialOfNow S I hP hI) (Nat.le_of_ble_eq_true rfl) (Nat.le_of_ble_eq_true rfl) (Nat.le_of_ble_eq_true rfl) (Nat.le_of_ble_eq_true rfl) ?_
  refine J_iload_n dX6_inspect_5 rfl ?_
  refine J_iload_n dX6_inspect_6 rfl ?_
  refine J_cV2r (mc := mX2_examine) hP.2.2.2.1.1 (by decide) rfl dX6_inspect_7 mlX6_58 okX2_examine (kX2_examine S (fX2_copyFrom I 20 1) 20 x y hP.2.2.2.1) (Nat.le_of_ble_eq_true rfl) (Nat.le_of_ble_eq_true rfl) (Nat.le_of_ble_eq_true rfl) (Nat.le_of_ble_eq_true rfl) ?_
  refine J_cV1r (mc := mX6_settle) hP.1 (by decide) rfl dX6_inspect_10 mlX6_48 okX6_settle (kX6_settle S ((fX2_examine (fX2_copyFrom I 20 1) 20 x y).2) ((fX2_examine (fX2_copyFrom I 20 1) 20 x y).1) k hP hS) (Nat.le_of_ble_eq_true rfl) (Nat.le_of_ble_eq_true rfl) (Nat.le_of_ble_eq_true rfl) (Nat.le_of_ble_eq_true rfl) ?_
  exact J_iret (ty := .int) hR dX6_inspect_13 rfl rfl (Nat.le_of_ble_eq_true rfl) (Nat.le_of_ble_eq_true rfl) (jRes_f (by first | (simp only [fX6_inspect]; done) | rfl | (simp only [fX6_inspect]; rfl)))
def fX6_fire (I : jI) (x : Int32) (k : Nat) : Int32 × jI :=
  ((fX6_settle ((fX2_light (fX2_copyFrom I 20 1) 20 x).2) ((fX2_light (fX2_copyFrom I 20 1) 20 x).1) k).1, (fX6_settle ((fX2_light (fX2_copyFrom I 20 1) 20 x).2) ((fX2_light (fX2_copyFrom I 20 1) 20 x).1) k).2)
set_option maxRecDepth 100000 in
set_option maxHeartbeats 4000000 in
theorem kX6_fire (S : jX) (I : jI) (x : Int32) (k : Nat) (hP : jTop S) (hI : jHInv I 1)  (hS : jSet (fX2_light (fX2_copyFrom I 20 1) 20 x).2 (fX2_light (fX2_copyFrom I 20 1) 20 x).1 k) : jM (4, 0, 0) mX6_fire [.ref 0, .int x] S I (jRes (some (.int (fX6_fire I x k).1)) S (fX6_fire I x k).2) := by
  refine jM.of (ls := [.ref 0, .int x]) (by decide) (Nat.le_of_ble_eq_true rfl) (by intro v hv; simp only [List.mem_cons, List.not_mem_nil, or_false] at hv; rcases hv with rfl | rfl <;> rfl) rfl (fun G hR => ?_)
  refine J_aload_n dX6_fire_0 rfl rfl ?_
  refine J_aload_n dX6_fire_1 rfl rfl ?_
  refine J_cV0r (mc := mX6_trialOfNow) hP.1 (by decide) rfl dX6_fire_2 mlX6_40 okX6_trialOfNow (kX6_trialOfNow S I hP hI) (Nat.le_of_ble_eq_true rfl) (Nat.le_of_ble_eq_true rfl) (Nat.le_of_ble_eq_true rfl) (Nat.le_of_ble_eq_true rfl) ?_
  refine J_iload_n dX6_fire_5 rfl ?_
  refine J_cV1r (mc := mX2_light) hP.2.2.2.1.1 (by decide) rfl dX6_fire_6 mlX6_61 okX2_light (kX2_light S (fX2_copyFrom I 20 1) 20 x hP.2.2.2.1) (Nat.le_of_ble_eq_true rfl) (Nat.le_of_ble_eq_true rfl) (Nat.le_of_ble_eq_true rfl) (Nat.le_of_ble_eq_true rfl) ?_
  refine J_cV1r (mc := mX6_settle) hP.1 (by decide) rfl dX6_fire_9 mlX6_48 okX6_settle (kX6_settle S ((fX2_light (fX2_copyFrom I 20 1) 20 x).2) ((fX2_light (fX2_copyFrom I 20 1) 20 x).1) k hP hS) (Nat.le_of_ble_eq_true rfl) (Nat.le_of_ble_eq_true rfl) (Nat.le_of_ble_eq_true rfl) (Nat.le_of_ble_eq_true rfl) ?_
  exact J_iret (ty := .int) hR dX6_fire_12 rfl rfl (Nat.le_of_ble_eq_true rfl) (Nat.le_of_ble_eq_true rfl) (jRes_f (by first | (simp only [fX6_fire]; done) | rfl | (simp only [fX6_fire]; rfl)))
def fX6_out (I : jI) (x : Int32) (k : Nat) : Int32 × jI :=
  ((fX6_settle ((fX2_putOut (fX2_copyFrom I 20 1) 20 x).2) ((fX2_putOut (fX2_copyFrom I 20 1) 20 x).1) k).1, (fX6_settle ((fX2_putOut (fX2_copyFrom I 20 1) 20 x).2) ((fX2_putOut (fX2_copyFrom I 20 1) 20 x).1) k).2)
set_option maxRecDepth 100000 in
set_option maxHeartbeats 4000000 in
theorem kX6_out (S : jX) (I : jI) (x : Int32) (k : Nat) (hP : jTop S) (hI : jHInv I 1)  (hS : jSet (fX2_putOut (fX2_copyFrom I 20 1) 20 x).2 (fX2_putOut (fX2_copyFrom I 20 1) 20 x).1 k) : jM (4, 0, 0) mX6_out [.ref 0, .int x] S I (jRes (some (.int (fX6_out I x k).1)) S (fX6_out I x k).2) := by
  refine jM.of (ls := [.ref 0, .int x]) (by decide) (Nat.le_of_ble_eq_true rfl) (by intro v hv; simp only [List.mem_cons, List.not_mem_nil, or_false] at hv; rcases hv with rfl | rfl <;> rfl) rfl (fun G hR => ?_)
  refine J_aload_n dX6_out_0 rfl rfl ?_
  refine J_aload_n dX6_out_1 rfl rfl ?_
  refine J_cV0r (mc := mX6_trialOfNow) hP.1 (by decide) rfl dX6_out_2 mlX6_40 okX6_trialOfNow (kX6_trialOfNow S I hP hI) (Nat.le_of_ble_eq_true rfl) (Nat.le_of_ble_eq_true rfl) (Nat.le_of_ble_eq_true rfl) (Nat.le_of_ble_eq_true rfl) ?_
  refine J_iload_n dX6_out_5 rfl ?_
  refine J_cV1r (mc := mX2_putOut) hP.2.2.2.1.1 (by decide) rfl dX6_out_6 mlX6_64 okX2_putOut (kX2_putOut S (fX2_copyFrom I 20 1) 20 x hP.2.2.2.1) (Nat.le_of_ble_eq_true rfl) (Nat.le_of_ble_eq_true rfl) (Nat.le_of_ble_eq_true rfl) (Nat.le_of_ble_eq_true rfl) ?_
  refine J_cV1r (mc := mX6_settle) hP.1 (by decide) rfl dX6_out_9 mlX6_48 okX6_settle (kX6_settle S ((fX2_putOut (fX2_copyFrom I 20 1) 20 x).2) ((fX2_putOut (fX2_copyFrom I 20 1) 20 x).1) k hP hS) (Nat.le_of_ble_eq_true rfl) (Nat.le_of_ble_eq_true rfl) (Nat.le_of_ble_eq_true rfl) (Nat.le_of_ble_eq_true rfl) ?_
  exact J_iret (ty := .int) hR dX6_out_12 rfl rfl (Nat.le_of_ble_eq_true rfl) (Nat.le_of_ble_eq_true rfl) (jRes_f (by first | (simp only [fX6_out]; done) | rfl | (simp only [fX6_out]; rfl)))
def fX6_plan (I : jI) (x : Int32) (y : Int32) (z : Int32) (k : Nat) : Int32 × jI :=
  ((fX6_settle ((fX2_planShutdown (fX2_copyFrom I 20 1) 20 x y z).2) ((fX2_planShutdown (fX2_copyFrom I 20 1) 20 x y z).1) k).1, (fX6_settle ((fX2_planShutdown (fX2_copyFrom I 20 1) 20 x y z).2) ((fX2_planShutdown (fX2_copyFrom I 20 1) 20 x y z).1) k).2)
set_option maxRecDepth 100000 in
set_option maxHeartbeats 4000000 in
theorem kX6_plan (S : jX) (I : jI) (x : Int32) (y : Int32) (z : Int32) (k : Nat) (hP : jTop S) (hI : jHInv I 1)  (hS : jSet (fX2_planShutdown (fX2_copyFrom I 20 1) 20 x y z).2 (fX2_planShutdown (fX2_copyFrom I 20 1) 20 x y z).1 k) : jM (4, 0, 0) mX6_plan [.ref 0, .int x, .int y, .int z] S I (jRes (some (.int (fX6_plan I x y z k).1)) S (fX6_plan I x y z k).2) := by
  refine jM.of (ls := [.ref 0, .int x, .int y, .int z]) (by decide) (Nat.le_of_ble_eq_true rfl) (by intro v hv; simp only [List.mem_cons, List.not_mem_nil, or_false] at hv; rcases hv with rfl | rfl | rfl | rfl <;> rfl) rfl (fun G hR => ?_)
  refine J_aload_n dX6_plan_0 rfl rfl ?_
  refine J_aload_n dX6_plan_1 rfl rfl ?_
  refine J_cV0r (mc := mX6_trialOfNow) hP.1 (by decide) rfl dX6_plan_2 mlX6_40 okX6_trialOfNow (kX6_trialOfNow S I hP hI) (Nat.le_of_ble_eq_true rfl) (Nat.le_of_ble_eq_true rfl) (Nat.le_of_ble_eq_true rfl) (Nat.le_of_ble_eq_true rfl) ?_
  refine J_iload_n dX6_plan_5 rfl ?_
  refine J_iload_n dX6_plan_6 rfl ?_
  refine J_iload_n dX6_plan_7 rfl ?_
  refine J_cV3r (mc := mX2_planShutdown) hP.2.2.2.1.1 (by decide) rfl dX6_plan_8 mlX6_67 okX2_planShutdown (kX2_planShutdown S (fX2_copyFrom I 20 1) 20 x y z hP.2.2.2.1) (Nat.le_of_ble_eq_true rfl) (Nat.le_of_ble_eq_true rfl) (Nat.le_of_ble_eq_true rfl) (Nat.le_of_ble_eq_true rfl) ?_
  refine J_cV1r (mc := mX6_settle) hP.1 (by decide) rfl dX6_plan_11 mlX6_48 okX6_settle (kX6_settle S ((fX2_planShutdown (fX2_copyFrom I 20 1) 20 x y z).2) ((fX2_planShutdown (fX2_copyFrom I 20 1) 20 x y z).1) k hP hS) (Nat.le_of_ble_eq_true rfl) (Nat.le_of_ble_eq_true rfl) (Nat.le_of_ble_eq_true rfl) (Nat.le_of_ble_eq_true rfl) ?_
  exact J_iret (ty := .int) hR dX6_plan_14 rfl rfl (Nat.le_of_ble_eq_true rfl) (Nat.le_of_ble_eq_true rfl) (jRes_f (by first | (simp only [fX6_plan]; done) | rfl | (simp only [fX6_plan]; rfl)))
def fX6_repair (I : jI) (x : Int32) (k : Nat) : Int32 × jI :=
  ((fX6_settle ((fX2_sendToRepair (fX2_copyFrom I 20 1) 20 x).2) ((fX2_sendToRepair (fX2_copyFrom I 20 1) 20 x).1) k).1, (fX6_settle ((fX2_sendToRepair (fX2_copyFrom I 20 1) 20 x).2) ((fX2_sendToRepair (fX2_copyFrom I 20 1) 20 x).1) k).2)
set_option maxRecDepth 100000 in
set_option maxHeartbeats 4000000 in
theorem kX6_repair (S : jX) (I : jI) (x : Int32) (k : Nat) (hP : jTop S) (hI : jHInv I 1)  (hS : jSet (fX2_sendToRepair (fX2_copyFrom I 20 1) 20 x).2 (fX2_sendToRepair (fX2_copyFrom I 20 1) 20 x).1 k) : jM (4, 0, 0) mX6_repair [.ref 0, .int x] S I (jRes (some (.int (fX6_repair I x k).1)) S (fX6_repair I x k).2) := by
  refine jM.of (ls := [.ref 0, .int x]) (by decide) (Nat.le_of_ble_eq_true rfl) (by intro v hv; simp only [List.mem_cons, List.not_mem_nil, or_false] at hv; rcases hv with rfl | rfl <;> rfl) rfl (fun G hR => ?_)
  refine J_aload_n dX6_repair_0 rfl rfl ?_
  refine J_aload_n dX6_repair_1 rfl rfl ?_
  refine J_cV0r (mc := mX6_trialOfNow) hP.1 (by decide) rfl dX6_repair_2 mlX6_40 okX6_trialOfNow (kX6_trialOfNow S I hP hI) (Nat.le_of_ble_eq_true rfl) (Nat.le_of_ble_eq_true rfl) (Nat.le_of_ble_eq_true rfl) (Nat.le_of_ble_eq_true rfl) ?_
  refine J_iload_n dX6_repair_5 rfl ?_
  refine J_cV1r (mc := mX2_sendToRepair) hP.2.2.2.1.1 (by decide) rfl dX6_repair_6 mlX6_71 okX2_sendToRepair (kX2_sendToRepair S (fX2_copyFrom I 20 1) 20 x hP.2.2.2.1) (Nat.le_of_ble_eq_true rfl) (Nat.le_of_ble_eq_true rfl) (Nat.le_of_ble_eq_true rfl) (Nat.le_of_ble_eq_true rfl) ?_
  refine J_cV1r (mc := mX6_settle) hP.1 (by decide) rfl dX6_repair_9 mlX6_48 okX6_settle (kX6_settle S ((fX2_sendToRepair (fX2_copyFrom I 20 1) 20 x).2) ((fX2_sendToRepair (fX2_copyFrom I 20 1) 20 x).1) k hP hS) (Nat.le_of_ble_eq_true rfl) (Nat.le_of_ble_eq_true rfl) (Nat.le_of_ble_eq_true rfl) (Nat.le_of_ble_eq_true rfl) ?_
  exact J_iret (ty := .int) hR dX6_repair_12 rfl rfl (Nat.le_of_ble_eq_true rfl) (Nat.le_of_ble_eq_true rfl) (jRes_f (by first | (simp only [fX6_repair]; done) | rfl | (simp only [fX6_repair]; rfl)))
def fX6_pass (I : jI) (x : Int32) (k : Nat) : Int32 × jI :=
  ((fX6_settle ((fX2_letWeeksPass (fX2_copyFrom I 20 1) 20 x).2) ((fX2_letWeeksPass (fX2_copyFrom I 20 1) 20 x).1) k).1, (fX6_settle ((fX2_letWeeksPass (fX2_copyFrom I 20 1) 20 x).2) ((fX2_letWeeksPass (fX2_copyFrom I 20 1) 20 x).1) k).2)
set_option maxRecDepth 100000 in
set_option maxHeartbeats 4000000 in
theorem kX6_pass (S : jX) (I : jI) (x : Int32) (k : Nat) (hP : jTop S) (hI : jHInv I 1) (hJ : jHInv (fX2_copyFrom I 20 1) 20) (hS : jSet (fX2_letWeeksPass (fX2_copyFrom I 20 1) 20 x).2 (fX2_letWeeksPass (fX2_copyFrom I 20 1) 20 x).1 k) : jM (4, 0, 0) mX6_pass [.ref 0, .int x] S I (jRes (some (.int (fX6_pass I x k).1)) S (fX6_pass I x k).2) := by
  refine jM.of (ls := [.ref 0, .int x]) (by decide) (Nat.le_of_ble_eq_true rfl) (by intro v hv; simp only [List.mem_cons, List.not_mem_nil, or_false] at hv; rcases hv with rfl | rfl <;> rfl) rfl (fun G hR => ?_)
  refine J_aload_n dX6_pass_0 rfl rfl ?_
  refine J_aload_n dX6_pass_1 rfl rfl ?_
  refine J_cV0r (mc := mX6_trialOfNow) hP.1 (by decide) rfl dX6_pass_2 mlX6_40 okX6_trialOfNow (kX6_trialOfNow S I hP hI) (Nat.le_of_ble_eq_true rfl) (Nat.le_of_ble_eq_true rfl) (Nat.le_of_ble_eq_true rfl) (Nat.le_of_ble_eq_true rfl) ?_
  refine J_iload_n dX6_pass_5 rfl ?_
  refine J_cV1r (mc := mX2_letWeeksPass) hP.2.2.2.1.1 (by decide) rfl dX6_pass_6 mlX6_74 okX2_letWeeksPass (kX2_letWeeksPass S (fX2_copyFrom I 20 1) 20 x hP.2.2.2.1 hJ) (Nat.le_of_ble_eq_true rfl) (Nat.le_of_ble_eq_true rfl) (Nat.le_of_ble_eq_true rfl) (Nat.le_of_ble_eq_true rfl) ?_
  refine J_cV1r (mc := mX6_settle) hP.1 (by decide) rfl dX6_pass_9 mlX6_48 okX6_settle (kX6_settle S ((fX2_letWeeksPass (fX2_copyFrom I 20 1) 20 x).2) ((fX2_letWeeksPass (fX2_copyFrom I 20 1) 20 x).1) k hP hS) (Nat.le_of_ble_eq_true rfl) (Nat.le_of_ble_eq_true rfl) (Nat.le_of_ble_eq_true rfl) (Nat.le_of_ble_eq_true rfl) ?_
  exact J_iret (ty := .int) hR dX6_pass_12 rfl rfl (Nat.le_of_ble_eq_true rfl) (Nat.le_of_ble_eq_true rfl) (jRes_f (by first | (simp only [fX6_pass]; done) | rfl | (simp only [fX6_pass]; rfl)))
def fX6_set (I : jI) (x : Int32) (y : Int32) (k : Nat) : Int32 × jI :=
  ((fX6_settle ((fX2_changeSetting (fX2_copyFrom I 20 1) 20 x y).2) ((fX2_changeSetting (fX2_copyFrom I 20 1) 20 x y).1) k).1, (fX6_settle ((fX2_changeSetting (fX2_copyFrom I 20 1) 20 x y).2) ((fX2_changeSetting (fX2_copyFrom I 20 1) 20 x y).1) k).2)
set_option maxRecDepth 100000 in
set_option maxHeartbeats 4000000 in
theorem kX6_set (S : jX) (I : jI) (x : Int32) (y : Int32) (k : Nat) (hP : jTop S) (hI : jHInv I 1)  (hS : jSet (fX2_changeSetting (fX2_copyFrom I 20 1) 20 x y).2 (fX2_changeSetting (fX2_copyFrom I 20 1) 20 x y).1 k) : jM (4, 0, 0) mX6_set [.ref 0, .int x, .int y] S I (jRes (some (.int (fX6_set I x y k).1)) S (fX6_set I x y k).2) := by
  refine jM.of (ls := [.ref 0, .int x, .int y]) (by decide) (Nat.le_of_ble_eq_true rfl) (by intro v hv; simp only [List.mem_cons, List.not_mem_nil, or_false] at hv; rcases hv with rfl | rfl | rfl <;> rfl) rfl (fun G hR => ?_)
  refine J_aload_n dX6_set_0 rfl rfl ?_
  refine J_aload_n dX6_set_1 rfl rfl ?_
  refine J_cV0r (mc := mX6_trialOfNow) hP.1 (by decide) rfl dX6_set_2 mlX6_40 okX6_trialOfNow (kX6_trialOfNow S I hP hI) (Nat.le_of_ble_eq_true rfl) (Nat.le_of_ble_eq_true rfl) (Nat.le_of_ble_eq_true rfl) (Nat.le_of_ble_eq_true rfl) ?_
  refine J_iload_n dX6_set_5 rfl ?_
  refine J_iload_n dX6_set_6 rfl ?_
  refine J_cV2r (mc := mX2_changeSetting) hP.2.2.2.1.1 (by decide) rfl dX6_set_7 mlX6_77 okX2_changeSetting (kX2_changeSetting S (fX2_copyFrom I 20 1) 20 x y hP.2.2.2.1) (Nat.le_of_ble_eq_true rfl) (Nat.le_of_ble_eq_true rfl) (Nat.le_of_ble_eq_true rfl) (Nat.le_of_ble_eq_true rfl) ?_
  refine J_cV1r (mc := mX6_settle) hP.1 (by decide) rfl dX6_set_10 mlX6_48 okX6_settle (kX6_settle S ((fX2_changeSetting (fX2_copyFrom I 20 1) 20 x y).2) ((fX2_changeSetting (fX2_copyFrom I 20 1) 20 x y).1) k hP hS) (Nat.le_of_ble_eq_true rfl) (Nat.le_of_ble_eq_true rfl) (Nat.le_of_ble_eq_true rfl) (Nat.le_of_ble_eq_true rfl) ?_
  exact J_iret (ty := .int) hR dX6_set_13 rfl rfl (Nat.le_of_ble_eq_true rfl) (Nat.le_of_ble_eq_true rfl) (jRes_f (by first | (simp only [fX6_set]; done) | rfl | (simp only [fX6_set]; rfl)))
def fX6_boilerOf (I : jI) (x : Int32) (y : Int32) : Int32 :=
  (fX2_factOfBoiler I 1 x y)
set_option maxRecDepth 100000 in
set_option maxHeartbeats 4000000 in
theorem kX6_boilerOf (S : jX) (I : jI) (x : Int32) (y : Int32) (hP : jTop S)  : jM (3, 0, 0) mX6_boilerOf [.ref 0, .int x, .int y] S I (jRes (some (.int (fX6_boilerOf I x y))) S I) := by
  refine jM.of (ls := [.ref 0, .int x, .int y]) (by decide) (Nat.le_of_ble_eq_true rfl) (by intro v hv; simp only [List.mem_cons, List.not_mem_nil, or_false] at hv; rcases hv with rfl | rfl | rfl <;> rfl) rfl (fun G hR => ?_)
  refine J_aload_n dX6_boilerOf_0 rfl rfl ?_
  refine J_getR dX6_boilerOf_1 flX6_10 rfl hP.1 hP.2.1.1 ?_
  refine J_iload_n dX6_boilerOf_4 rfl ?_
  refine J_iload_n dX6_boilerOf_5 rfl ?_
  refine J_cV2r (mc := mX2_factOfBoiler) hP.2.2.1.1 (by decide) rfl dX6_boilerOf_6 mlX6_80 okX2_factOfBoiler (kX2_factOfBoiler S I 1 x y hP.2.2.1) (Nat.le_of_ble_eq_true rfl) (Nat.le_of_ble_eq_true rfl) (Nat.le_of_ble_eq_true rfl) (Nat.le_of_ble_eq_true rfl) ?_
  exact J_iret (ty := .int) hR dX6_boilerOf_9 rfl rfl (Nat.le_of_ble_eq_true rfl) (Nat.le_of_ble_eq_true rfl) (jRes_i (by first | (simp only [fX6_boilerOf]; done) | rfl | (simp only [fX6_boilerOf]; rfl)) rfl)
def fX6_paperOf (I : jI) (x : Int32) (y : Int32) : Int32 :=
  (fX2_factOfPaper I 1 x y)
set_option maxRecDepth 100000 in
set_option maxHeartbeats 4000000 in
theorem kX6_paperOf (S : jX) (I : jI) (x : Int32) (y : Int32) (hP : jTop S)  : jM (2, 0, 0) mX6_paperOf [.ref 0, .int x, .int y] S I (jRes (some (.int (fX6_paperOf I x y))) S I) := by
  refine jM.of (ls := [.ref 0, .int x, .int y]) (by decide) (Nat.le_of_ble_eq_true rfl) (by intro v hv; simp only [List.mem_cons, List.not_mem_nil, or_false] at hv; rcases hv with rfl | rfl | rfl <;> rfl) rfl (fun G hR => ?_)
  refine J_aload_n dX6_paperOf_0 rfl rfl ?_
  refine J_getR dX6_paperOf_1 flX6_10 rfl hP.1 hP.2.1.1 ?_
  refine J_iload_n dX6_paperOf_4 rfl ?_
  refine J_iload_n dX6_paperOf_5 rfl ?_
  refine J_cV2r (mc := mX2_factOfPaper) hP.2.2.1.1 (by decide) rfl dX6_paperOf_6 mlX6_83 okX2_factOfPaper (kX2_factOfPaper S I 1 x y hP.2.2.1) (Nat.le_of_ble_eq_true rfl) (Nat.le_of_ble_eq_true rfl) (Nat.le_of_ble_eq_true rfl) (Nat.le_of_ble_eq_true rfl) ?_
  exact J_iret (ty := .int) hR dX6_paperOf_9 rfl rfl (Nat.le_of_ble_eq_true rfl) (Nat.le_of_ble_eq_true rfl) (jRes_i (by first | (simp only [fX6_paperOf]; done) | rfl | (simp only [fX6_paperOf]; rfl)) rfl)
def fX6_inspectorOf (I : jI) (x : Int32) (y : Int32) : Int32 :=
  (fX2_factOfInspector I 1 x y)
set_option maxRecDepth 100000 in
set_option maxHeartbeats 4000000 in
theorem kX6_inspectorOf (S : jX) (I : jI) (x : Int32) (y : Int32) (hP : jTop S)  : jM (3, 0, 0) mX6_inspectorOf [.ref 0, .int x, .int y] S I (jRes (some (.int (fX6_inspectorOf I x y))) S I) := by
  refine jM.of (ls := [.ref 0, .int x, .int y]) (by decide) (Nat.le_of_ble_eq_true rfl) (by intro v hv; simp only [List.mem_cons, List.not_mem_nil, or_false] at hv; rcases hv with rfl | rfl | rfl <;> rfl) rfl (fun G hR => ?_)
  refine J_aload_n dX6_inspectorOf_0 rfl rfl ?_
  refine J_getR dX6_inspectorOf_1 flX6_10 rfl hP.1 hP.2.1.1 ?_
  refine J_iload_n dX6_inspectorOf_4 rfl ?_
  refine J_iload_n dX6_inspectorOf_5 rfl ?_
  refine J_cV2r (mc := mX2_factOfInspector) hP.2.2.1.1 (by decide) rfl dX6_inspectorOf_6 mlX6_86 okX2_factOfInspector (kX2_factOfInspector S I 1 x y hP.2.2.1) (Nat.le_of_ble_eq_true rfl) (Nat.le_of_ble_eq_true rfl) (Nat.le_of_ble_eq_true rfl) (Nat.le_of_ble_eq_true rfl) ?_
  exact J_iret (ty := .int) hR dX6_inspectorOf_9 rfl rfl (Nat.le_of_ble_eq_true rfl) (Nat.le_of_ble_eq_true rfl) (jRes_i (by first | (simp only [fX6_inspectorOf]; done) | rfl | (simp only [fX6_inspectorOf]; rfl)) rfl)
def fX6_why (I : jI) (x : Int32) (y : Int32) : Int32 :=
  if y = (-1) then
    (fX2_whyNotFired I 1 x)
  else
    (fX2_whyNotInspected I 1 x y)
set_option maxRecDepth 100000 in
set_option maxHeartbeats 4000000 in
theorem kX6_why (S : jX) (I : jI) (x : Int32) (y : Int32) (hP : jTop S)  : jM (3, 0, 0) mX6_why [.ref 0, .int x, .int y] S I (jRes (some (.int (fX6_why I x y))) S I) := by
  refine jM.of (ls := [.ref 0, .int x, .int y]) (by decide) (Nat.le_of_ble_eq_true rfl) (by intro v hv; simp only [List.mem_cons, List.not_mem_nil, or_false] at hv; rcases hv with rfl | rfl | rfl <;> rfl) rfl (fun G hR => ?_)
  refine J_iload_n dX6_why_0 rfl ?_
  refine J_iconst (-1) dX6_why_1 rfl ?_
  refine J_icmp_ne (tgt := 14) dX6_why_2 (by decide) (fun h1 => ?_) (fun h1 => ?_)
  · skip
    refine J_aload_n dX6_why_14 rfl rfl ?_
    refine J_getR dX6_why_15 flX6_10 rfl hP.1 hP.2.1.1 ?_
    refine J_iload_n dX6_why_18 rfl ?_
    refine J_iload_n dX6_why_19 rfl ?_
    refine J_cV2r (mc := mX2_whyNotInspected) hP.2.2.1.1 (by decide) rfl dX6_why_20 mlX6_92 okX2_whyNotInspected (kX2_whyNotInspected S I 1 x y hP.2.2.1) (Nat.le_of_ble_eq_true rfl) (Nat.le_of_ble_eq_true rfl) (Nat.le_of_ble_eq_true rfl) (Nat.le_of_ble_eq_true rfl) ?_
    exact J_iret (ty := .int) hR dX6_why_23 rfl rfl (Nat.le_of_ble_eq_true rfl) (Nat.le_of_ble_eq_true rfl) (jRes_i (by first | (simp only [fX6_why, if_neg h1]; done) | rfl | (simp only [fX6_why, if_neg h1]; rfl)) rfl)
  · skip
    refine J_aload_n dX6_why_5 rfl rfl ?_
    refine J_getR dX6_why_6 flX6_10 rfl hP.1 hP.2.1.1 ?_
    refine J_iload_n dX6_why_9 rfl ?_
    refine J_cV1r (mc := mX2_whyNotFired) hP.2.2.1.1 (by decide) rfl dX6_why_10 mlX6_89 okX2_whyNotFired (kX2_whyNotFired S I 1 x hP.2.2.1) (Nat.le_of_ble_eq_true rfl) (Nat.le_of_ble_eq_true rfl) (Nat.le_of_ble_eq_true rfl) (Nat.le_of_ble_eq_true rfl) ?_
    exact J_iret (ty := .int) hR dX6_why_13 rfl rfl (Nat.le_of_ble_eq_true rfl) (Nat.le_of_ble_eq_true rfl) (jRes_i (by first | (simp only [fX6_why, if_pos h1]; done) | rfl | (simp only [fX6_why, if_pos h1]; rfl)) rfl)
def fX6_account (I : jI) (x : Int32) : Int32 :=
  (fX2_balanceOf I 1 x)
set_option maxRecDepth 100000 in
set_option maxHeartbeats 4000000 in
theorem kX6_account (S : jX) (I : jI) (x : Int32) (hP : jTop S)  : jM (1, 0, 0) mX6_account [.ref 0, .int x] S I (jRes (some (.int (fX6_account I x))) S I) := by
  refine jM.of (ls := [.ref 0, .int x]) (by decide) (Nat.le_of_ble_eq_true rfl) (by intro v hv; simp only [List.mem_cons, List.not_mem_nil, or_false] at hv; rcases hv with rfl | rfl <;> rfl) rfl (fun G hR => ?_)
  refine J_aload_n dX6_account_0 rfl rfl ?_
  refine J_getR dX6_account_1 flX6_10 rfl hP.1 hP.2.1.1 ?_
  refine J_iload_n dX6_account_4 rfl ?_
  refine J_cV1r (mc := mX2_balanceOf) hP.2.2.1.1 (by decide) rfl dX6_account_5 mlX6_95 okX2_balanceOf (kX2_balanceOf S I 1 x hP.2.2.1) (Nat.le_of_ble_eq_true rfl) (Nat.le_of_ble_eq_true rfl) (Nat.le_of_ble_eq_true rfl) (Nat.le_of_ble_eq_true rfl) ?_
  exact J_iret (ty := .int) hR dX6_account_8 rfl rfl (Nat.le_of_ble_eq_true rfl) (Nat.le_of_ble_eq_true rfl) (jRes_i (by first | (simp only [fX6_account]; done) | rfl | (simp only [fX6_account]; rfl)) rfl)
def fX6_would (I : jI) (x : Int32) (y : Int32) (z : Int32) : Int32 :=
  (fX2_paperThatWouldBe I 1 x y z)
set_option maxRecDepth 100000 in
set_option maxHeartbeats 4000000 in
theorem kX6_would (S : jX) (I : jI) (x : Int32) (y : Int32) (z : Int32) (hP : jTop S)  : jM (3, 0, 0) mX6_would [.ref 0, .int x, .int y, .int z] S I (jRes (some (.int (fX6_would I x y z))) S I) := by
  refine jM.of (ls := [.ref 0, .int x, .int y, .int z]) (by decide) (Nat.le_of_ble_eq_true rfl) (by intro v hv; simp only [List.mem_cons, List.not_mem_nil, or_false] at hv; rcases hv with rfl | rfl | rfl | rfl <;> rfl) rfl (fun G hR => ?_)
  refine J_aload_n dX6_would_0 rfl rfl ?_
  refine J_getR dX6_would_1 flX6_10 rfl hP.1 hP.2.1.1 ?_
  refine J_iload_n dX6_would_4 rfl ?_
  refine J_iload_n dX6_would_5 rfl ?_
  refine J_iload_n dX6_would_6 rfl ?_
  refine J_cV3r (mc := mX2_paperThatWouldBe) hP.2.2.1.1 (by decide) rfl dX6_would_7 mlX6_98 okX2_paperThatWouldBe (kX2_paperThatWouldBe S I 1 x y z hP.2.2.1) (Nat.le_of_ble_eq_true rfl) (Nat.le_of_ble_eq_true rfl) (Nat.le_of_ble_eq_true rfl) (Nat.le_of_ble_eq_true rfl) ?_
  exact J_iret (ty := .int) hR dX6_would_10 rfl rfl (Nat.le_of_ble_eq_true rfl) (Nat.le_of_ble_eq_true rfl) (jRes_i (by first | (simp only [fX6_would]; done) | rfl | (simp only [fX6_would]; rfl)) rfl)
def fX6_better (I : jI) (x : Int32) : Int32 :=
  (fX2_betterInsurer I 1 x)
set_option maxRecDepth 100000 in
set_option maxHeartbeats 4000000 in
theorem kX6_better (S : jX) (I : jI) (x : Int32) (hP : jTop S)  : jM (4, 0, 0) mX6_better [.ref 0, .int x] S I (jRes (some (.int (fX6_better I x))) S I) := by
  refine jM.of (ls := [.ref 0, .int x]) (by decide) (Nat.le_of_ble_eq_true rfl) (by intro v hv; simp only [List.mem_cons, List.not_mem_nil, or_false] at hv; rcases hv with rfl | rfl <;> rfl) rfl (fun G hR => ?_)
  refine J_aload_n dX6_better_0 rfl rfl ?_
  refine J_getR dX6_better_1 flX6_10 rfl hP.1 hP.2.1.1 ?_
  refine J_iload_n dX6_better_4 rfl ?_
  refine J_cV1r (mc := mX2_betterInsurer) hP.2.2.1.1 (by decide) rfl dX6_better_5 mlX6_101 okX2_betterInsurer (kX2_betterInsurer S I 1 x hP.2.2.1) (Nat.le_of_ble_eq_true rfl) (Nat.le_of_ble_eq_true rfl) (Nat.le_of_ble_eq_true rfl) (Nat.le_of_ble_eq_true rfl) ?_
  exact J_iret (ty := .int) hR dX6_better_8 rfl rfl (Nat.le_of_ble_eq_true rfl) (Nat.le_of_ble_eq_true rfl) (jRes_i (by first | (simp only [fX6_better]; done) | rfl | (simp only [fX6_better]; rfl)) rfl)
def fX6_goesOn (I : jI) (x : Int32) : Int32 :=
  (fX2_weeksUntilPutOut I 1 x)
set_option maxRecDepth 100000 in
set_option maxHeartbeats 4000000 in
theorem kX6_goesOn (S : jX) (I : jI) (x : Int32) (hP : jTop S)  : jM (3, 0, 0) mX6_goesOn [.ref 0, .int x] S I (jRes (some (.int (fX6_goesOn I x))) S I) := by
  refine jM.of (ls := [.ref 0, .int x]) (by decide) (Nat.le_of_ble_eq_true rfl) (by intro v hv; simp only [List.mem_cons, List.not_mem_nil, or_false] at hv; rcases hv with rfl | rfl <;> rfl) rfl (fun G hR => ?_)
  refine J_aload_n dX6_goesOn_0 rfl rfl ?_
  refine J_getR dX6_goesOn_1 flX6_10 rfl hP.1 hP.2.1.1 ?_
  refine J_iload_n dX6_goesOn_4 rfl ?_
  refine J_cV1r (mc := mX2_weeksUntilPutOut) hP.2.2.1.1 (by decide) rfl dX6_goesOn_5 mlX6_107 okX2_weeksUntilPutOut (kX2_weeksUntilPutOut S I 1 x hP.2.2.1) (Nat.le_of_ble_eq_true rfl) (Nat.le_of_ble_eq_true rfl) (Nat.le_of_ble_eq_true rfl) (Nat.le_of_ble_eq_true rfl) ?_
  exact J_iret (ty := .int) hR dX6_goesOn_8 rfl rfl (Nat.le_of_ble_eq_true rfl) (Nat.le_of_ble_eq_true rfl) (jRes_i (by first | (simp only [fX6_goesOn]; done) | rfl | (simp only [fX6_goesOn]; rfl)) rfl)
def fX6_first (I : jI) (x : Int32) : Int32 :=
  (fX2_firstToRunOut I 1 x)
set_option maxRecDepth 100000 in
set_option maxHeartbeats 4000000 in
theorem kX6_first (S : jX) (I : jI) (x : Int32) (hP : jTop S) (hI : jHInv I 1) : jM (2, 0, 0) mX6_first [.ref 0, .int x] S I (jRes (some (.int (fX6_first I x))) S I) := by
  refine jM.of (ls := [.ref 0, .int x]) (by decide) (Nat.le_of_ble_eq_true rfl) (by intro v hv; simp only [List.mem_cons, List.not_mem_nil, or_false] at hv; rcases hv with rfl | rfl <;> rfl) rfl (fun G hR => ?_)
  refine J_aload_n dX6_first_0 rfl rfl ?_
  refine J_getR dX6_first_1 flX6_10 rfl hP.1 hP.2.1.1 ?_
  refine J_iload_n dX6_first_4 rfl ?_
  refine J_cV1r (mc := mX2_firstToRunOut) hP.2.2.1.1 (by decide) rfl dX6_first_5 mlX6_104 okX2_firstToRunOut (kX2_firstToRunOut S I 1 x hP.2.2.1 hI) (Nat.le_of_ble_eq_true rfl) (Nat.le_of_ble_eq_true rfl) (Nat.le_of_ble_eq_true rfl) (Nat.le_of_ble_eq_true rfl) ?_
  exact J_iret (ty := .int) hR dX6_first_8 rfl rfl (Nat.le_of_ble_eq_true rfl) (Nat.le_of_ble_eq_true rfl) (jRes_i (by first | (simp only [fX6_first]; done) | rfl | (simp only [fX6_first]; rfl)) rfl)
def fX6_count (I : jI) (x : Int32) : Int32 :=
  if x = 13 then
    (fX1_size I 39)
  else
    if x = 14 then
      (fX4_length I 117)
    else
      (fX2_numberOf I 1 x)
set_option maxRecDepth 100000 in
set_option maxHeartbeats 4000000 in
theorem kX6_count (S : jX) (I : jI) (x : Int32) (hP : jTop S) (hI : jHInv I 1) : jM (5, 0, 0) mX6_count [.ref 0, .int x] S I (jRes (some (.int (fX6_count I x))) S I) := by
  refine jM.of (ls := [.ref 0, .int x]) (by decide) (Nat.le_of_ble_eq_true rfl) (by intro v hv; simp only [List.mem_cons, List.not_mem_nil, or_false] at hv; rcases hv with rfl | rfl <;> rfl) rfl (fun G hR => ?_)
  refine J_iload_n dX6_count_0 rfl ?_
  by_cases h1 : x = 13
  · skip
    refine J_look (off := 27) (tgt := 28) dX6_count_1 (by decide) (by rw [h1]; rfl) (by decide) ?_
    refine J_aload_n dX6_count_28 rfl rfl ?_
    refine J_getR dX6_count_29 flX6_22 rfl hP.1 hP.2.1.2.2.1 ?_
    refine J_cV0r (mc := mX1_size) hP.2.2.2.2.1.1 (by decide) rfl dX6_count_32 mlX6_113 okX1_size (kX1_size S I 39 hP.2.2.2.2.1) (Nat.le_of_ble_eq_true rfl) (Nat.le_of_ble_eq_true rfl) (Nat.le_of_ble_eq_true rfl) (Nat.le_of_ble_eq_true rfl) ?_
    exact J_iret (ty := .int) hR dX6_count_35 rfl rfl (Nat.le_of_ble_eq_true rfl) (Nat.le_of_ble_eq_true rfl) (jRes_i (by first | (simp only [fX6_count, if_pos h1]; done) | rfl | (simp only [fX6_count, if_pos h1]; rfl)) rfl)
  by_cases h2 : x = 14
  · skip
    refine J_look (off := 35) (tgt := 36) dX6_count_1 (by decide) (by rw [h2]; rfl) (by decide) ?_
    refine J_aload_n dX6_count_36 rfl rfl ?_
    refine J_getR dX6_count_37 flX6_29 rfl hP.1 hP.2.1.2.2.2.1 ?_
    refine J_cV0r (mc := mX4_length) hP.2.2.2.2.2.1.1 (by decide) rfl dX6_count_40 mlX6_117 okX4_length (kX4_length S I 117 hP.2.2.2.2.2.1) (Nat.le_of_ble_eq_true rfl) (Nat.le_of_ble_eq_true rfl) (Nat.le_of_ble_eq_true rfl) (Nat.le_of_ble_eq_true rfl) ?_
    exact J_iret (ty := .int) hR dX6_count_43 rfl rfl (Nat.le_of_ble_eq_true rfl) (Nat.le_of_ble_eq_true rfl) (jRes_i (by first | (simp only [fX6_count, if_neg h1, if_pos h2]; done) | rfl | (simp only [fX6_count, if_neg h1, if_pos h2]; rfl)) rfl)
  refine J_look (off := 43) (tgt := 44) dX6_count_1 (by decide) (by show Op.lookupswitch.offset [(13, 27), (14, 35)] (43) (x).toInt = 43; rw [lv_osw h1 (a := 13) rfl, lv_osw h2 (a := 14) rfl]; rfl) (by decide) ?_
  refine J_aload_n dX6_count_44 rfl rfl ?_
  refine J_getR dX6_count_45 flX6_10 rfl hP.1 hP.2.1.1 ?_
  refine J_iload_n dX6_count_48 rfl ?_
  refine J_cV1r (mc := mX2_numberOf) hP.2.2.1.1 (by decide) rfl dX6_count_49 mlX6_120 okX2_numberOf (kX2_numberOf S I 1 x hP.2.2.1 hI) (Nat.le_of_ble_eq_true rfl) (Nat.le_of_ble_eq_true rfl) (Nat.le_of_ble_eq_true rfl) (Nat.le_of_ble_eq_true rfl) ?_
  exact J_iret (ty := .int) hR dX6_count_52 rfl rfl (Nat.le_of_ble_eq_true rfl) (Nat.le_of_ble_eq_true rfl) (jRes_i (by first | (simp only [fX6_count, if_neg h1, if_neg h2]; done) | rfl | (simp only [fX6_count, if_neg h1, if_neg h2]; rfl)) rfl)
def fX6_undo (I : jI)  (k : Nat) : Int32 × jI :=
  ((fX1_bringBack I 39 1 k).1, (fX1_bringBack I 39 1 k).2)
set_option maxRecDepth 100000 in
set_option maxHeartbeats 4000000 in
theorem kX6_undo (S : jX) (I : jI)  (k : Nat) (hP : jTop S) (hk : k < 4) (hI : jHInv I (39 + 2 + 19 * k)) (hn2 : (I 39 2 + 4 - 1) - (I 39 2 + 4 - 1) / 4 * 4 = nI k) : jM (3, 0, 0) mX6_undo [.ref 0] S I (jRes (some (.int (fX6_undo I  k).1)) S (fX6_undo I  k).2) := by
  refine jM.of (ls := [.ref 0]) (by decide) (Nat.le_of_ble_eq_true rfl) (by intro v hv; simp only [List.mem_cons, List.not_mem_nil, or_false] at hv; rcases hv with rfl <;> rfl) rfl (fun G hR => ?_)
  refine J_aload_n dX6_undo_0 rfl rfl ?_
  refine J_getR dX6_undo_1 flX6_22 rfl hP.1 hP.2.1.2.2.1 ?_
  refine J_aload_n dX6_undo_4 rfl rfl ?_
  refine J_getR dX6_undo_5 flX6_10 rfl hP.1 hP.2.1.1 ?_
  refine J_cV1r (mc := mX1_bringBack) hP.2.2.2.2.1.1 (by decide) rfl dX6_undo_8 mlX6_123 okX1_bringBack (kX1_bringBack S I 39 1 k hP.2.2.2.2.1 hP.2.2.1 hk (by unfold jApart; omega) hI hn2) (Nat.le_of_ble_eq_true rfl) (Nat.le_of_ble_eq_true rfl) (Nat.le_of_ble_eq_true rfl) (Nat.le_of_ble_eq_true rfl) ?_
  exact J_iret (ty := .int) hR dX6_undo_11 rfl rfl (Nat.le_of_ble_eq_true rfl) (Nat.le_of_ble_eq_true rfl) (jRes_f (by first | (simp only [fX6_undo]; done) | rfl | (simp only [fX6_undo]; rfl)))
def fX6_type (I : jI) (x : Int32) : Int32 × jI :=
  ((fX4_append I 117 x).1, (fX4_append I 117 x).2)
set_option maxRecDepth 100000 in
set_option maxHeartbeats 4000000 in
theorem kX6_type (S : jX) (I : jI) (x : Int32) (hP : jTop S)  : jM (1, 0, 0) mX6_type [.ref 0, .int x] S I (jRes (some (.int (fX6_type I x).1)) S (fX6_type I x).2) := by
  refine jM.of (ls := [.ref 0, .int x]) (by decide) (Nat.le_of_ble_eq_true rfl) (by intro v hv; simp only [List.mem_cons, List.not_mem_nil, or_false] at hv; rcases hv with rfl | rfl <;> rfl) rfl (fun G hR => ?_)
  refine J_aload_n dX6_type_0 rfl rfl ?_
  refine J_getR dX6_type_1 flX6_29 rfl hP.1 hP.2.1.2.2.2.1 ?_
  refine J_iload_n dX6_type_4 rfl ?_
  refine J_cV1r (mc := mX4_append) hP.2.2.2.2.2.1.1 (by decide) rfl dX6_type_5 mlX6_127 okX4_append (kX4_append S I 117 x hP.2.2.2.2.2.1) (Nat.le_of_ble_eq_true rfl) (Nat.le_of_ble_eq_true rfl) (Nat.le_of_ble_eq_true rfl) (Nat.le_of_ble_eq_true rfl) ?_
  exact J_iret (ty := .int) hR dX6_type_8 rfl rfl (Nat.le_of_ble_eq_true rfl) (Nat.le_of_ble_eq_true rfl) (jRes_f (by first | (simp only [fX6_type]; done) | rfl | (simp only [fX6_type]; rfl)))
def fX6_clearText (I : jI)  : Int32 × jI :=
  ((fX4_empty I 117).1, (fX4_empty I 117).2)
set_option maxRecDepth 100000 in
set_option maxHeartbeats 4000000 in
theorem kX6_clearText (S : jX) (I : jI)  (hP : jTop S)  : jM (1, 0, 0) mX6_clearText [.ref 0] S I (jRes (some (.int (fX6_clearText I).1)) S (fX6_clearText I).2) := by
  refine jM.of (ls := [.ref 0]) (by decide) (Nat.le_of_ble_eq_true rfl) (by intro v hv; simp only [List.mem_cons, List.not_mem_nil, or_false] at hv; rcases hv with rfl <;> rfl) rfl (fun G hR => ?_)
  refine J_aload_n dX6_clearText_0 rfl rfl ?_
  refine J_getR dX6_clearText_1 flX6_29 rfl hP.1 hP.2.1.2.2.2.1 ?_
  refine J_cV0r (mc := mX4_empty) hP.2.2.2.2.2.1.1 (by decide) rfl dX6_clearText_4 mlX6_130 okX4_empty (kX4_empty S I 117 hP.2.2.2.2.2.1) (Nat.le_of_ble_eq_true rfl) (Nat.le_of_ble_eq_true rfl) (Nat.le_of_ble_eq_true rfl) (Nat.le_of_ble_eq_true rfl) ?_
  exact J_iret (ty := .int) hR dX6_clearText_7 rfl rfl (Nat.le_of_ble_eq_true rfl) (Nat.le_of_ble_eq_true rfl) (jRes_f (by first | (simp only [fX6_clearText]; done) | rfl | (simp only [fX6_clearText]; rfl)))
def fX6_fault (I : jI) (x : Int32) : Int32 × jI :=
  if x < 0 then
    ((-2000000001), I)
  else
    if x ≤ 2 then
      ((fX5_factOfFault (fX5_run (fX2_copyFrom I 20 1) 119 117 20) 119 x), (fX5_run (fX2_copyFrom I 20 1) 119 117 20))
    else
      ((-2000000001), I)
set_option maxRecDepth 100000 in
set_option maxHeartbeats 4000000 in
theorem kX6_fault (S : jX) (I : jI) (x : Int32) (hP : jTop S) (hI : jHInv I 1) (hinv : ∀ k, jHInv (fX4_readOrder (rehI (fX4_goToStart (jset (jset (fX2_copyFrom I 20 1) 119 0 0) 119 2 0) 117) 119 117 20 k) 117).2 20) : jM (6, 0, 0) mX6_fault [.ref 0, .int x] S I (jRes (some (.int (fX6_fault I x).1)) S (fX6_fault I x).2) := by
  refine jM.of (ls := [.ref 0, .int x]) (by decide) (Nat.le_of_ble_eq_true rfl) (by intro v hv; simp only [List.mem_cons, List.not_mem_nil, or_false] at hv; rcases hv with rfl | rfl <;> rfl) rfl (fun G hR => ?_)
  refine J_iload_n dX6_fault_0 rfl ?_
  refine J_if_lt (tgt := 9) dX6_fault_1 (by decide) (fun h1 => ?_) (fun h1 => ?_)
  · skip
    refine J_ldc (-2000000001) dX6_fault_9 jw_275 ?_
    exact J_iret (ty := .int) hR dX6_fault_11 rfl rfl (Nat.le_of_ble_eq_true rfl) (Nat.le_of_ble_eq_true rfl) (jRes_f (by first | (simp only [fX6_fault, if_pos h1]; done) | rfl | (simp only [fX6_fault, if_pos h1]; rfl)))
  · skip
    refine J_iload_n dX6_fault_4 rfl ?_
    refine J_iconst (2) dX6_fault_5 rfl ?_
    refine J_icmp_le (tgt := 12) dX6_fault_6 (by decide) (fun h2 => ?_) (fun h2 => ?_)
    · skip
      refine J_aload_n dX6_fault_12 rfl rfl ?_
      refine J_getR dX6_fault_13 flX6_36 rfl hP.1 hP.2.1.2.2.2.2 ?_
      refine J_aload_n dX6_fault_16 rfl rfl ?_
      refine J_getR dX6_fault_17 flX6_29 rfl hP.1 hP.2.1.2.2.2.1 ?_
      refine J_aload_n dX6_fault_20 rfl rfl ?_
      refine J_cV0r (mc := mX6_trialOfNow) hP.1 (by decide) rfl dX6_fault_21 mlX6_40 okX6_trialOfNow (kX6_trialOfNow S I hP hI) (Nat.le_of_ble_eq_true rfl) (Nat.le_of_ble_eq_true rfl) (Nat.le_of_ble_eq_true rfl) (Nat.le_of_ble_eq_true rfl) ?_
      refine J_cV2 (mc := mX5_run) hP.2.2.2.2.2.2 (by decide) rfl dX6_fault_24 mlX6_134 okX5_run (kX5_run S (fX2_copyFrom I 20 1) 119 117 20 hP.2.2.2.2.2.2 hP.2.2.2.2.2.1 hP.2.2.2.1 hinv) (Nat.le_of_ble_eq_true rfl) (Nat.le_of_ble_eq_true rfl) (Nat.le_of_ble_eq_true rfl) (Nat.le_of_ble_eq_true rfl) ?_
      refine J_aload_n dX6_fault_27 rfl rfl ?_
      refine J_getR dX6_fault_28 flX6_36 rfl hP.1 hP.2.1.2.2.2.2 ?_
      refine J_iload_n dX6_fault_31 rfl ?_
      refine J_cV1r (mc := mX5_factOfFault) hP.2.2.2.2.2.2 (by decide) rfl dX6_fault_32 mlX6_138 okX5_factOfFault (kX5_factOfFault S (fX5_run (fX2_copyFrom I 20 1) 119 117 20) 119 x hP.2.2.2.2.2.2) (Nat.le_of_ble_eq_true rfl) (Nat.le_of_ble_eq_true rfl) (Nat.le_of_ble_eq_true rfl) (Nat.le_of_ble_eq_true rfl) ?_
      exact J_iret (ty := .int) hR dX6_fault_35 rfl rfl (Nat.le_of_ble_eq_true rfl) (Nat.le_of_ble_eq_true rfl) (jRes_f (by first | (simp only [fX6_fault, if_neg h1, if_pos h2]; done) | rfl | (simp only [fX6_fault, if_neg h1, if_pos h2]; rfl)))
    · skip
      refine J_ldc (-2000000001) dX6_fault_9 jw_275 ?_
      exact J_iret (ty := .int) hR dX6_fault_11 rfl rfl (Nat.le_of_ble_eq_true rfl) (Nat.le_of_ble_eq_true rfl) (jRes_f (by first | (simp only [fX6_fault, if_neg h1, if_neg h2]; done) | rfl | (simp only [fX6_fault, if_neg h1, if_neg h2]; rfl)))
def fX6_play (I : jI)  (k : Nat) : Int32 × jI :=
  ((fX6_settle (fX5_run (fX2_copyFrom I 20 1) 119 117 20) (fX5_ordersDone (fX5_run (fX2_copyFrom I 20 1) 119 117 20) 119) k).1, (fX6_settle (fX5_run (fX2_copyFrom I 20 1) 119 117 20) (fX5_ordersDone (fX5_run (fX2_copyFrom I 20 1) 119 117 20) 119) k).2)
set_option maxRecDepth 100000 in
set_option maxHeartbeats 4000000 in
theorem kX6_play (S : jX) (I : jI)  (k : Nat) (hP : jTop S) (hI : jHInv I 1) (hinv : ∀ k, jHInv (fX4_readOrder (rehI (fX4_goToStart (jset (jset (fX2_copyFrom I 20 1) 119 0 0) 119 2 0) 117) 119 117 20 k) 117).2 20) (hS : jSet (fX5_run (fX2_copyFrom I 20 1) 119 117 20) (fX5_ordersDone (fX5_run (fX2_copyFrom I 20 1) 119 117 20) 119) k) : jM (6, 0, 0) mX6_play [.ref 0] S I (jRes (some (.int (fX6_play I  k).1)) S (fX6_play I  k).2) := by
  refine jM.of (ls := [.ref 0]) (by decide) (Nat.le_of_ble_eq_true rfl) (by intro v hv; simp only [List.mem_cons, List.not_mem_nil, or_false] at hv; rcases hv with rfl <;> rfl) rfl (fun G hR => ?_)
  refine J_aload_n dX6_play_0 rfl rfl ?_
  refine J_getR dX6_play_1 flX6_36 rfl hP.1 hP.2.1.2.2.2.2 ?_
  refine J_aload_n dX6_play_4 rfl rfl ?_
  refine J_getR dX6_play_5 flX6_29 rfl hP.1 hP.2.1.2.2.2.1 ?_
  refine J_aload_n dX6_play_8 rfl rfl ?_
  refine J_cV0r (mc := mX6_trialOfNow) hP.1 (by decide) rfl dX6_play_9 mlX6_40 okX6_trialOfNow (kX6_trialOfNow S I hP hI) (Nat.le_of_ble_eq_true rfl) (Nat.le_of_ble_eq_true rfl) (Nat.le_of_ble_eq_true rfl) (Nat.le_of_ble_eq_true rfl) ?_
  refine J_cV2 (mc := mX5_run) hP.2.2.2.2.2.2 (by decide) rfl dX6_play_12 mlX6_134 okX5_run (kX5_run S (fX2_copyFrom I 20 1) 119 117 20 hP.2.2.2.2.2.2 hP.2.2.2.2.2.1 hP.2.2.2.1 hinv) (Nat.le_of_ble_eq_true rfl) (Nat.le_of_ble_eq_true rfl) (Nat.le_of_ble_eq_true rfl) (Nat.le_of_ble_eq_true rfl) ?_
  refine J_aload_n dX6_play_15 rfl rfl ?_
  refine J_aload_n dX6_play_16 rfl rfl ?_
  refine J_getR dX6_play_17 flX6_36 rfl hP.1 hP.2.1.2.2.2.2 ?_
  refine J_cV0r (mc := mX5_ordersDone) hP.2.2.2.2.2.2 (by decide) rfl dX6_play_20 mlX6_141 okX5_ordersDone (kX5_ordersDone S (fX5_run (fX2_copyFrom I 20 1) 119 117 20) 119 hP.2.2.2.2.2.2) (Nat.le_of_ble_eq_true rfl) (Nat.le_of_ble_eq_true rfl) (Nat.le_of_ble_eq_true rfl) (Nat.le_of_ble_eq_true rfl) ?_
  refine J_cV1r (mc := mX6_settle) hP.1 (by decide) rfl dX6_play_23 mlX6_48 okX6_settle (kX6_settle S (fX5_run (fX2_copyFrom I 20 1) 119 117 20) (fX5_ordersDone (fX5_run (fX2_copyFrom I 20 1) 119 117 20) 119) k hP hS) (Nat.le_of_ble_eq_true rfl) (Nat.le_of_ble_eq_true rfl) (Nat.le_of_ble_eq_true rfl) (Nat.le_of_ble_eq_true rfl) ?_
  exact J_iret (ty := .int) hR dX6_play_26 rfl rfl (Nat.le_of_ble_eq_true rfl) (Nat.le_of_ble_eq_true rfl) (jRes_f (by first | (simp only [fX6_play]; done) | rfl | (simp only [fX6_play]; rfl)))
