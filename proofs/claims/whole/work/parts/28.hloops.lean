theorem oX0_becomeCold {I : jI} {b a : Nat}  (h : a ≠ b) : (fX0_becomeCold I b ) a = I a := by
  unfold fX0_becomeCold
  repeat' split
  all_goals first | rfl | (funext k; simp [jset, h])
theorem oX0_age {I : jI} {b a : Nat}  (h : a ≠ b) : (fX0_age I b ) a = I a := by
  unfold fX0_age
  repeat' split
  all_goals first | rfl | (funext k; simp [jset, h])
theorem oX0_begin {I : jI} {b a : Nat} {x : Int32} (h : a ≠ b) : (fX0_begin I b x) a = I a := by
  unfold fX0_begin
  repeat' split
  all_goals first | rfl | (funext k; simp [jset, h])
theorem oX0_takePaper {I : jI} {b a : Nat} {x y z : Int32} (h : a ≠ b) : (fX0_takePaper I b x y z) a = I a := by
  unfold fX0_takePaper
  repeat' split
  all_goals first | rfl | (funext k; simp [jset, h])
theorem oX0_refusePaper {I : jI} {b a : Nat}  (h : a ≠ b) : (fX0_refusePaper I b ) a = I a := by
  unfold fX0_refusePaper
  repeat' split
  all_goals first | rfl | (funext k; simp [jset, h])
theorem oX0_dropWhatIsPastIn {I : jI} {b a : Nat} {x : Int32} (h : a ≠ b) : (fX0_dropWhatIsPastIn I b x) a = I a := by
  unfold fX0_dropWhatIsPastIn
  repeat' split
  all_goals first | rfl | (funext k; simp [jset, h])
theorem oX0_endRepairIn {I : jI} {b a : Nat} {x : Int32} (h : a ≠ b) : (fX0_endRepairIn I b x) a = I a := by
  unfold fX0_endRepairIn
  repeat' split
  all_goals first | rfl | (funext k; simp [jset, h, fX0_becomeCold])
theorem oX3_beginWeek {I : jI} {b a : Nat}  (h : a ≠ b) : (fX3_beginWeek I b ) a = I a := by
  unfold fX3_beginWeek
  repeat' split
  all_goals first | rfl | (funext k; simp [jset, h])
theorem oX3_begin {I : jI} {b a : Nat} {x y : Int32} (h : a ≠ b) : (fX3_begin I b x y) a = I a := by
  unfold fX3_begin
  repeat' split
  all_goals first | rfl | (funext k; simp [jset, h])
theorem oX3_noteInspection {I : jI} {b a : Nat} {x : Int32} (h : a ≠ b) : (fX3_noteInspection I b x) a = I a := by
  unfold fX3_noteInspection
  repeat' split
  all_goals first | rfl | (funext k; simp [jset, h])
def cW1 (I : jI) (o b : Nat) : jI := fX0_age I b
def cW2 (I : jI) (o b : Nat) : jI := fX0_endRepairIn (cW1 I o b) b ((cW1 I o b) o 6)
def cW3 (I : jI) (o b : Nat) : jI := fX0_dropWhatIsPastIn (cW2 I o b) b ((cW2 I o b) o 6)
def cWb (I : jI) (o : Nat) (n : Int32) (b : Nat) : Int32 × jI := if fX0_mustGoOutIn (cW3 I o b) b ((cW3 I o b) o 6) = 0 then (n, cW3 I o b) else (n + 1, fX0_becomeCold (cW3 I o b) b)
def cWI (I : jI) (o : Nat) : Nat → jI
  | 0 => I
  | i + 1 => fX3_beginWeek (cWI I o i) (o + 13 + i)
def cWN (I : jI) (o : Nat) : Nat → Int32 × jI
  | 0 => (0, I)
  | i + 1 => cWb (cWN I o i).2 o (cWN I o i).1 (o + 5 + i)
def fX2_letOneWeekPass (I : jI) (o : Nat) : Int32 × jI := cWN (cWI (jset I o 6 (I o 6 + 1)) o (I o 5).toNatClampNeg) o (I o 4).toNatClampNeg
theorem cW3_n {I : jI} {o b a : Nat} (h : a ≠ b) : (cW3 I o b) a = I a := by unfold cW3 cW2 cW1; rw [oX0_dropWhatIsPastIn h, oX0_endRepairIn h, oX0_age h]
theorem cWb_n {I : jI} {o b a : Nat} {n : Int32} (h : a ≠ b) : (cWb I o n b).2 a = I a := by
  unfold cWb
  split
  · exact cW3_n h
  · exact (oX0_becomeCold h).trans (cW3_n h)
theorem cWI_n {I : jI} {o a : Nat} : ∀ {i : Nat}, (a < o + 13 ∨ o + 13 + i ≤ a) → cWI I o i a = I a
  | 0, _ => rfl
  | i + 1, h => (oX3_beginWeek (by omega)).trans (cWI_n (by omega))
theorem cWN_n {I : jI} {o a : Nat} : ∀ {i : Nat}, (a < o + 5 ∨ o + 5 + i ≤ a) → (cWN I o i).2 a = I a
  | 0, _ => rfl
  | i + 1, h => (cWb_n (by omega)).trans (cWN_n (by omega))
set_option maxRecDepth 100000 in
set_option maxHeartbeats 4000000 in
theorem l1X2_letOneWeekPass {S : jX} {I : jI} {o : Nat} {G : jG} (hH : jHouse S o) {m : Nat} (hm : m ≤ 6) (hc : I o 5 = nI m) (hnx : ∀ v8 v9 : Value, J G (2, 0, 0) mX2_letOneWeekPass 40 [.ref o, .int (nI m), v8, v9] [] S (cWI I o m) 0 0) : ∀ (c i : Nat), i + c = m → ∀ v8 v9 : Value, J G (2, 0, 0) mX2_letOneWeekPass 12 [.ref o, .int (nI i), v8, v9] [] S (cWI I o i) 0 0 := by
  intro c
  induction c with
  | zero =>
    intro i hi v8 v9
    have hi2 : i = m := by omega
    subst hi2
    have hcc : cWI I o i o 5 = nI i := by rw [cWI_n (by omega)]; exact hc
    refine J_iload_n dX2_letOneWeekPass_12 rfl ?_
    refine J_aload_n dX2_letOneWeekPass_13 rfl rfl ?_
    refine J_getI dX2_letOneWeekPass_14 flX2_36 rfl hH.1 ?_
    refine J_icmp_ge (tgt := 40) dX2_letOneWeekPass_17 (by decide) (fun h1 => ?_) (fun h1 => ?_)
    · skip
      exact hnx _ _
    · skip
      exact absurd (by rw [hcc]; exact Int32.le_refl _) h1
  | succ c ih =>
    intro i hi v8 v9
    have hcc : cWI I o i o 5 = nI m := by rw [cWI_n (by omega)]; exact hc
    refine J_iload_n dX2_letOneWeekPass_12 rfl ?_
    refine J_aload_n dX2_letOneWeekPass_13 rfl rfl ?_
    refine J_getI dX2_letOneWeekPass_14 flX2_36 rfl hH.1 ?_
    refine J_icmp_ge (tgt := 40) dX2_letOneWeekPass_17 (by decide) (fun h1 => ?_) (fun h1 => ?_)
    · skip
      exact absurd h1 (by rw [hcc]; exact nI_ge (by omega) (by omega))
    · skip
      refine J_aload_n dX2_letOneWeekPass_20 rfl rfl ?_
      refine J_iload_n dX2_letOneWeekPass_21 rfl ?_
      refine J_cV1r (mc := mX2_inspectorAt) hH.1 (by decide) rfl dX2_letOneWeekPass_22 mlX2_60 okX2_inspectorAt (kX2_inspectorAt S (cWI I o i) o (nI i) hH) (Nat.le_of_ble_eq_true rfl) (Nat.le_of_ble_eq_true rfl) (Nat.le_of_ble_eq_true rfl) (Nat.le_of_ble_eq_true rfl) ?_
      rw [inspectorAt_ok hm hcc (by omega)]
      refine J_astore_n dX2_letOneWeekPass_25 (Nat.le_of_ble_eq_true rfl) rfl ?_
      refine J_aload_n dX2_letOneWeekPass_26 rfl rfl ?_
      refine J_ifnull_r dX2_letOneWeekPass_27 ?_
      refine J_aload_n dX2_letOneWeekPass_30 rfl rfl ?_
      refine J_cV0 (mc := mX3_beginWeek) (hH.c (by omega : i < 6)).1 (by decide) rfl dX2_letOneWeekPass_31 mlX2_154 okX3_beginWeek (kX3_beginWeek S (cWI I o i) (o + 13 + i) (hH.c (by omega : i < 6)).1) (Nat.le_of_ble_eq_true rfl) (Nat.le_of_ble_eq_true rfl) (Nat.le_of_ble_eq_true rfl) (Nat.le_of_ble_eq_true rfl) ?_
      refine J_iinc (y := 1) dX2_letOneWeekPass_34 rfl rfl ?_
      refine J_goto (tgt := 12) dX2_letOneWeekPass_37 (by decide) ?_
      refine J_eq (ls' := [.ref o, .int (nI (i + 1)), .ref (o + 13 + i), v9]) (by rw [← nI_1]; rfl) rfl (ih (i + 1) (by omega) _ _)
set_option maxRecDepth 100000 in
set_option maxHeartbeats 4000000 in
theorem w1X2_letOneWeekPass {S : jX} {I : jI} {o b : Nat} {n i : Int32} {G : jG} (hH : jHouse S o) (hb : jKd S b 0 0) (h : J G (2, 0, 0) mX2_letOneWeekPass 103 [.ref o, .int (cWb I o n b).1, .int i, .ref b] [] S (cWb I o n b).2 0 0) : J G (2, 0, 0) mX2_letOneWeekPass 65 [.ref o, .int n, .int i, .ref b] [] S I 0 0 := by
  refine J_aload_n dX2_letOneWeekPass_65 rfl rfl ?_
  refine J_cV0 (mc := mX0_age) hb (by decide) rfl dX2_letOneWeekPass_66 mlX2_157 okX0_age (kX0_age S I b hb) (Nat.le_of_ble_eq_true rfl) (Nat.le_of_ble_eq_true rfl) (Nat.le_of_ble_eq_true rfl) (Nat.le_of_ble_eq_true rfl) ?_
  show J G (2, 0, 0) mX2_letOneWeekPass _ _ _ S (cW1 I o b) 0 0
  refine J_aload_n dX2_letOneWeekPass_69 rfl rfl ?_
  refine J_aload_n dX2_letOneWeekPass_70 rfl rfl ?_
  refine J_getI dX2_letOneWeekPass_71 flX2_39 rfl hH.1 ?_
  refine J_cV1 (mc := mX0_endRepairIn) hb (by decide) rfl dX2_letOneWeekPass_74 mlX2_160 okX0_endRepairIn (kX0_endRepairIn S (cW1 I o b) b ((cW1 I o b) o 6) hb) (Nat.le_of_ble_eq_true rfl) (Nat.le_of_ble_eq_true rfl) (Nat.le_of_ble_eq_true rfl) (Nat.le_of_ble_eq_true rfl) ?_
  show J G (2, 0, 0) mX2_letOneWeekPass _ _ _ S (cW2 I o b) 0 0
  refine J_aload_n dX2_letOneWeekPass_77 rfl rfl ?_
  refine J_aload_n dX2_letOneWeekPass_78 rfl rfl ?_
  refine J_getI dX2_letOneWeekPass_79 flX2_39 rfl hH.1 ?_
  refine J_cV1 (mc := mX0_dropWhatIsPastIn) hb (by decide) rfl dX2_letOneWeekPass_82 mlX2_163 okX0_dropWhatIsPastIn (kX0_dropWhatIsPastIn S (cW2 I o b) b ((cW2 I o b) o 6) hb) (Nat.le_of_ble_eq_true rfl) (Nat.le_of_ble_eq_true rfl) (Nat.le_of_ble_eq_true rfl) (Nat.le_of_ble_eq_true rfl) ?_
  show J G (2, 0, 0) mX2_letOneWeekPass _ _ _ S (cW3 I o b) 0 0
  refine J_aload_n dX2_letOneWeekPass_85 rfl rfl ?_
  refine J_aload_n dX2_letOneWeekPass_86 rfl rfl ?_
  refine J_getI dX2_letOneWeekPass_87 flX2_39 rfl hH.1 ?_
  refine J_cV1r (mc := mX0_mustGoOutIn) hb (by decide) rfl dX2_letOneWeekPass_90 mlX2_166 okX0_mustGoOutIn (kX0_mustGoOutIn S (cW3 I o b) b ((cW3 I o b) o 6) hb) (Nat.le_of_ble_eq_true rfl) (Nat.le_of_ble_eq_true rfl) (Nat.le_of_ble_eq_true rfl) (Nat.le_of_ble_eq_true rfl) ?_
  refine J_if_eq (tgt := 103) dX2_letOneWeekPass_93 (by decide) (fun h1 => ?_) (fun h1 => ?_)
  · skip
    simp only [cWb, if_pos h1] at h
    exact h
  · skip
    refine J_aload_n dX2_letOneWeekPass_96 rfl rfl ?_
    refine J_cV0 (mc := mX0_becomeCold) hb (by decide) rfl dX2_letOneWeekPass_97 mlX2_131 okX0_becomeCold (kX0_becomeCold S (cW3 I o b) b hb) (Nat.le_of_ble_eq_true rfl) (Nat.le_of_ble_eq_true rfl) (Nat.le_of_ble_eq_true rfl) (Nat.le_of_ble_eq_true rfl) ?_
    refine J_iinc (y := 1) dX2_letOneWeekPass_100 rfl rfl ?_
    simp only [cWb, if_neg h1] at h
    exact h
set_option maxRecDepth 100000 in
set_option maxHeartbeats 4000000 in
theorem l2X2_letOneWeekPass {S : jX} {I : jI} {o : Nat} {G : jG} {Φ : Option Value → jX → jI → Prop} (hR : jR G (2, 0, 0) Φ) (hH : jHouse S o) {n : Nat} (hn : n ≤ 8) (hc : I o 4 = nI n) (hΦ : Φ (some (.int (cWN I o n).1)) S (cWN I o n).2) : ∀ (c i : Nat), i + c = n → ∀ v9 : Value, J G (2, 0, 0) mX2_letOneWeekPass 44 [.ref o, .int (cWN I o i).1, .int (nI i), v9] [] S (cWN I o i).2 0 0 := by
  intro c
  induction c with
  | zero =>
    intro i hi v9
    have hi2 : i = n := by omega
    subst hi2
    have hcc : (cWN I o i).2 o 4 = nI i := by rw [cWN_n (by omega)]; exact hc
    refine J_iload_n dX2_letOneWeekPass_44 rfl ?_
    refine J_aload_n dX2_letOneWeekPass_45 rfl rfl ?_
    refine J_getI dX2_letOneWeekPass_46 flX2_32 rfl hH.1 ?_
    refine J_icmp_ge (tgt := 109) dX2_letOneWeekPass_49 (by decide) (fun h1 => ?_) (fun h1 => ?_)
    · skip
      refine J_iload_n dX2_letOneWeekPass_109 rfl ?_
      exact J_iret (ty := .int) hR dX2_letOneWeekPass_110 rfl rfl (Nat.le_of_ble_eq_true rfl) (Nat.le_of_ble_eq_true rfl) hΦ
    · skip
      exact absurd (by rw [hcc]; exact Int32.le_refl _) h1
  | succ c ih =>
    intro i hi v9
    have hcc : (cWN I o i).2 o 4 = nI n := by rw [cWN_n (by omega)]; exact hc
    refine J_iload_n dX2_letOneWeekPass_44 rfl ?_
    refine J_aload_n dX2_letOneWeekPass_45 rfl rfl ?_
    refine J_getI dX2_letOneWeekPass_46 flX2_32 rfl hH.1 ?_
    refine J_icmp_ge (tgt := 109) dX2_letOneWeekPass_49 (by decide) (fun h1 => ?_) (fun h1 => ?_)
    · skip
      exact absurd h1 (by rw [hcc]; exact nI_ge (by omega) (by omega))
    · skip
      refine J_aload_n dX2_letOneWeekPass_52 rfl rfl ?_
      refine J_iload_n dX2_letOneWeekPass_53 rfl ?_
      refine J_cV1r (mc := mX2_boilerAt) hH.1 (by decide) rfl dX2_letOneWeekPass_54 mlX2_52 okX2_boilerAt (kX2_boilerAt S ((cWN I o i).2) o (nI i) hH) (Nat.le_of_ble_eq_true rfl) (Nat.le_of_ble_eq_true rfl) (Nat.le_of_ble_eq_true rfl) (Nat.le_of_ble_eq_true rfl) ?_
      rw [boilerAt_ok hn hcc (by omega)]
      refine J_astore_n dX2_letOneWeekPass_57 (Nat.le_of_ble_eq_true rfl) rfl ?_
      refine J_aload_n dX2_letOneWeekPass_58 rfl rfl ?_
      refine J_ifnonnull_r (tgt := 65) dX2_letOneWeekPass_59 (by decide) ?_
      refine w1X2_letOneWeekPass hH (hH.b (by omega)).1 ?_
      refine J_iinc (y := 1) dX2_letOneWeekPass_103 rfl rfl ?_
      refine J_goto (tgt := 44) dX2_letOneWeekPass_106 (by decide) ?_
      refine J_eq (ls' := [.ref o, .int (cWN I o (i + 1)).1, .int (nI (i + 1)), .ref (o + 5 + i)]) (by rw [← nI_1]; rfl) rfl (ih (i + 1) (by omega) _)
set_option maxRecDepth 100000 in
set_option maxHeartbeats 4000000 in
theorem kX2_letOneWeekPass (S : jX) (I : jI) (o : Nat) (hH : jHouse S o) (hI : jHInv I o) : jM (2, 0, 0) mX2_letOneWeekPass [.ref o] S I (jRes (some (.int (fX2_letOneWeekPass I o).1)) S (fX2_letOneWeekPass I o).2) := by
  refine jM.of (ls := [.ref o, .long 0, .long 0, .long 0]) (by decide) (Nat.le_of_ble_eq_true rfl) (by intro v hv; simp only [List.mem_cons, List.not_mem_nil, or_false] at hv; rcases hv with rfl <;> rfl) rfl (fun G hR => ?_)
  obtain ⟨⟨n, hn, hc, -⟩, m, hm, hc1⟩ := hI
  refine J_aload_n dX2_letOneWeekPass_0 rfl rfl ?_
  refine J_dup dX2_letOneWeekPass_1 rfl ?_
  refine J_getI dX2_letOneWeekPass_2 flX2_39 rfl hH.1 ?_
  refine J_iconst (1) dX2_letOneWeekPass_5 rfl ?_
  refine J_iadd dX2_letOneWeekPass_6 ?_
  refine J_putI dX2_letOneWeekPass_7 flX2_39 rfl rfl rfl rfl hH.1 ?_
  refine J_iconst (0) dX2_letOneWeekPass_10 rfl ?_
  refine J_istore_n dX2_letOneWeekPass_11 (Nat.le_of_ble_eq_true rfl) ?_
  refine l1X2_letOneWeekPass (I := jset I o 6 (I o 6 + 1)) hH hm (by rw [jset_n _ _ (by omega)]; exact hc1) (fun v8 v9 => ?_) m 0 (by omega) _ _
  refine J_iconst (0) dX2_letOneWeekPass_40 rfl ?_
  refine J_istore_n dX2_letOneWeekPass_41 (Nat.le_of_ble_eq_true rfl) ?_
  refine J_iconst (0) dX2_letOneWeekPass_42 rfl ?_
  refine J_istore_n dX2_letOneWeekPass_43 (Nat.le_of_ble_eq_true rfl) ?_
  refine l2X2_letOneWeekPass (I := cWI (jset I o 6 (I o 6 + 1)) o m) hR hH hn (by rw [cWI_n (by omega), jset_n _ _ (by omega)]; exact hc) ?_ n 0 (by omega) _
  show jRes _ _ _ _ _ _
  unfold fX2_letOneWeekPass
  rw [hc, hc1, nI_clamp (by omega), nI_clamp (by omega)]
  exact ⟨rfl, rfl, rfl⟩
theorem cNext_keep {I : jI} {o : Nat} (hI : jHInv I o) : (fX2_letOneWeekPass I o).2 o 4 = I o 4 ∧ (fX2_letOneWeekPass I o).2 o 5 = I o 5 ∧ (fX2_letOneWeekPass I o).2 o 7 = I o 7 := by
  unfold fX2_letOneWeekPass
  refine ⟨?_, ?_, ?_⟩ <;> (rw [cWN_n (by omega), cWI_n (by omega), jset_n _ _ (by omega)])
theorem jBb_eq {I J : jI} {b : Nat} (h : jBb I b) (e : J b = I b) : jBb J b := by unfold jBb; rw [e]; exact h
theorem jBb_set {I : jI} {b k a : Nat} {x : Int32} (h : jBb I a) (hk : (a = b → (k = 6 ∨ k = 7 ∨ k = 11) → (x = 0 ∨ x = 1))) : jBb (jset I b k x) a := by
  obtain ⟨h6, h7, h11⟩ := h
  by_cases ha : a = b
  · subst ha
    refine ⟨?_, ?_, ?_⟩
    · by_cases hk6 : k = 6
      · subst hk6; rw [jset_o]; exact hk rfl (Or.inl rfl)
      · rw [jset_n _ _ (by omega)]; exact h6
    · by_cases hk7 : k = 7
      · subst hk7; rw [jset_o]; exact hk rfl (Or.inr (Or.inl rfl))
      · rw [jset_n _ _ (by omega)]; exact h7
    · by_cases hk11 : k = 11
      · subst hk11; rw [jset_o]; exact hk rfl (Or.inr (Or.inr rfl))
      · rw [jset_n _ _ (by omega)]; exact h11
  · exact jBb_eq ⟨h6, h7, h11⟩ (by funext q; simp [jset, ha])
theorem jBb_cold {I : jI} {b : Nat} (h : jBb I b) : jBb (fX0_becomeCold I b) b := by
  unfold fX0_becomeCold
  exact jBb_set (jBb_set h (by first | exact (fun _ _ => Or.inl rfl) | exact (fun _ h => by omega))) (by first | exact (fun _ _ => Or.inl rfl) | exact (fun _ h => by omega))
theorem jBb_age {I : jI} {b : Nat} (h : jBb I b) : jBb (fX0_age I b) b := by
  unfold fX0_age
  repeat' split
  all_goals first | exact h | exact jBb_set h (by first | exact (fun _ _ => Or.inl rfl) | exact (fun _ h => by omega))
theorem jBb_end {I : jI} {b : Nat} {x : Int32} (h : jBb I b) : jBb (fX0_endRepairIn I b x) b := by
  unfold fX0_endRepairIn
  repeat' split
  all_goals first | exact h | exact jBb_set (jBb_set (jBb_set (jBb_cold h) (by first | exact (fun _ _ => Or.inl rfl) | exact (fun _ h => by omega))) (by first | exact (fun _ _ => Or.inl rfl) | exact (fun _ h => by omega))) (by first | exact (fun _ _ => Or.inl rfl) | exact (fun _ h => by omega))
theorem jBb_drop {I : jI} {b : Nat} {x : Int32} (h : jBb I b) : jBb (fX0_dropWhatIsPastIn I b x) b := by
  unfold fX0_dropWhatIsPastIn
  repeat' split
  all_goals first | exact h | exact jBb_set h (by first | exact (fun _ _ => Or.inl rfl) | exact (fun _ h => by omega)) | exact jBb_set (jBb_set h (by first | exact (fun _ _ => Or.inl rfl) | exact (fun _ h => by omega))) (by first | exact (fun _ _ => Or.inl rfl) | exact (fun _ h => by omega))
theorem jBb_wb {I : jI} {o b : Nat} {n : Int32} (h : jBb I b) : jBb (cWb I o n b).2 b := by
  have h3 : jBb (cW3 I o b) b := jBb_drop (jBb_end (jBb_age h))
  unfold cWb
  split
  · exact h3
  · exact jBb_cold h3
theorem cWN_Bb {I : jI} {o n : Nat} (h : ∀ i, i < n → jBb I (o + 5 + i)) : ∀ {k : Nat}, k ≤ n → ∀ i, i < n → jBb (cWN I o k).2 (o + 5 + i)
  | 0, _, i, hi => h i hi
  | k + 1, hk, i, hi => by
    show jBb (cWb (cWN I o k).2 o (cWN I o k).1 (o + 5 + k)).2 (o + 5 + i)
    have ih := cWN_Bb h (k := k) (by omega) i hi
    by_cases hik : i = k
    · subst hik; exact jBb_wb ih
    · exact jBb_eq ih (cWb_n (by omega))
theorem cNext_inv {I : jI} {o : Nat} (hI : jHInv I o) : jHInv (fX2_letOneWeekPass I o).2 o := by
  obtain ⟨e4, e5, -⟩ := cNext_keep hI
  obtain ⟨⟨n, hn, hc, hb⟩, m, hm, hc1⟩ := hI
  refine ⟨⟨n, hn, by rw [e4]; exact hc, fun i hi => ?_⟩, m, hm, by rw [e5]; exact hc1⟩
  unfold fX2_letOneWeekPass
  rw [hc, hc1, nI_clamp (by omega), nI_clamp (by omega)]
  refine cWN_Bb (n := n) (fun i hi => jBb_eq (hb i hi) ?_) (Nat.le_refl _) i hi
  rw [cWI_n (by omega)]
  funext q; simp [jset]; omega
def cPassN (I : jI) (o : Nat) : Nat → Int32 × jI
  | 0 => (0, I)
  | k + 1 => ((cPassN I o k).1 + (fX2_letOneWeekPass (cPassN I o k).2 o).1, (fX2_letOneWeekPass (cPassN I o k).2 o).2)
theorem cPassN_inv {I : jI} {o : Nat} (hI : jHInv I o) : ∀ k, jHInv (cPassN I o k).2 o
  | 0 => hI
  | k + 1 => cNext_inv (cPassN_inv hI k)
def fX2_letWeeksPass (I : jI) (o : Nat) (x : Int32) : Int32 × jI :=
  if x < 1 then ((-2000000001), I)
  else if x ≤ 60 then (if (I o 6 + x) ≤ 9999 then ((cPassN I o x.toNatClampNeg).1, jset (cPassN I o x.toNatClampNeg).2 o 7 ((cPassN I o x.toNatClampNeg).2 o 7 + (cPassN I o x.toNatClampNeg).1)) else ((-2000000003), I))
  else ((-2000000001), I)
theorem j60 {x : Int32} (h1 : ¬ x < 1) (h2 : x ≤ 60) : ∃ m : Nat, 1 ≤ m ∧ m ≤ 60 ∧ x = nI m := by
  have h1 := Int32.not_lt.mp h1
  obtain ⟨j, hj, rfl⟩ := nI_of (Int32.not_lt.mpr (Int32.le_trans (show (0 : Int32) ≤ 1 by decide) h1))
  have h3 : nI j ≤ nI 60 := h2
  have h4 : nI 1 ≤ nI j := h1
  rw [nI_leI hj (by decide)] at h3
  rw [nI_leI (by decide) hj] at h4
  exact ⟨j, h4, h3, rfl⟩
set_option maxRecDepth 100000 in
set_option maxHeartbeats 4000000 in
theorem lX2_letWeeksPass {S : jX} {I : jI} {o : Nat} {G : jG} {Φ : Option Value → jX → jI → Prop} (hR : jR G (3, 0, 0) Φ) (hH : jHouse S o) (hI : jHInv I o) {m : Nat} (hm : m ≤ 60) (hΦ : Φ (some (.int (cPassN I o m).1)) S (jset (cPassN I o m).2 o 7 ((cPassN I o m).2 o 7 + (cPassN I o m).1))) : ∀ (c i : Nat), i + c = m → J G (3, 0, 0) mX2_letWeeksPass 33 [.ref o, .int (nI m), .int (cPassN I o i).1, .int (nI i)] [] S (cPassN I o i).2 0 0 := by
  intro c
  induction c with
  | zero =>
    intro i hi
    have hi2 : i = m := by omega
    subst hi2
    refine J_iload_n dX2_letWeeksPass_33 rfl ?_
    refine J_iload_n dX2_letWeeksPass_34 rfl ?_
    refine J_icmp_ge (tgt := 51) dX2_letWeeksPass_35 (by decide) (fun h1 => ?_) (fun h1 => ?_)
    · skip
      refine J_aload_n dX2_letWeeksPass_51 rfl rfl ?_
      refine J_dup dX2_letWeeksPass_52 rfl ?_
      refine J_getI dX2_letWeeksPass_53 flX2_42 rfl hH.1 ?_
      refine J_iload_n dX2_letWeeksPass_56 rfl ?_
      refine J_iadd dX2_letWeeksPass_57 ?_
      refine J_putI dX2_letWeeksPass_58 flX2_42 rfl rfl rfl rfl hH.1 ?_
      refine J_iload_n dX2_letWeeksPass_61 rfl ?_
      exact J_iret (ty := .int) hR dX2_letWeeksPass_62 rfl rfl (Nat.le_of_ble_eq_true rfl) (Nat.le_of_ble_eq_true rfl) hΦ
    · skip
      exact absurd (Int32.le_refl _) h1
  | succ c ih =>
    intro i hi
    refine J_iload_n dX2_letWeeksPass_33 rfl ?_
    refine J_iload_n dX2_letWeeksPass_34 rfl ?_
    refine J_icmp_ge (tgt := 51) dX2_letWeeksPass_35 (by decide) (fun h1 => ?_) (fun h1 => ?_)
    · skip
      exact absurd h1 (nI_ge (by omega) (by omega))
    · skip
      refine J_iload_n dX2_letWeeksPass_38 rfl ?_
      refine J_aload_n dX2_letWeeksPass_39 rfl rfl ?_
      refine J_cV0r (mc := mX2_letOneWeekPass) hH.1 (by decide) rfl dX2_letWeeksPass_40 mlX2_150 okX2_letOneWeekPass (kX2_letOneWeekPass S ((cPassN I o i).2) o hH (cPassN_inv hI i)) (Nat.le_of_ble_eq_true rfl) (Nat.le_of_ble_eq_true rfl) (Nat.le_of_ble_eq_true rfl) (Nat.le_of_ble_eq_true rfl) ?_
      refine J_iadd dX2_letWeeksPass_43 ?_
      refine J_istore_n dX2_letWeeksPass_44 (Nat.le_of_ble_eq_true rfl) ?_
      refine J_iinc (y := 1) dX2_letWeeksPass_45 rfl rfl ?_
      refine J_goto (tgt := 33) dX2_letWeeksPass_48 (by decide) ?_
      refine J_eq (ls' := [.ref o, .int (nI m), .int (cPassN I o (i + 1)).1, .int (nI (i + 1))]) (by rw [← nI_1]; rfl) rfl (ih (i + 1) (by omega))
set_option maxRecDepth 100000 in
set_option maxHeartbeats 4000000 in
theorem kX2_letWeeksPass (S : jX) (I : jI) (o : Nat) (x : Int32) (hH : jHouse S o) (hI : jHInv I o) : jM (3, 0, 0) mX2_letWeeksPass [.ref o, .int x] S I (jRes (some (.int (fX2_letWeeksPass I o x).1)) S (fX2_letWeeksPass I o x).2) := by
  refine jM.of (ls := [.ref o, .int x, .long 0, .long 0]) (by decide) (Nat.le_of_ble_eq_true rfl) (by intro v hv; simp only [List.mem_cons, List.not_mem_nil, or_false] at hv; rcases hv with rfl | rfl <;> rfl) rfl (fun G hR => ?_)
  refine J_iload_n dX2_letWeeksPass_0 rfl ?_
  refine J_iconst (1) dX2_letWeeksPass_1 rfl ?_
  refine J_icmp_lt (tgt := 11) dX2_letWeeksPass_2 (by decide) (fun h1 => ?_) (fun h1 => ?_)
  · skip
    refine J_ldc (-2000000001) dX2_letWeeksPass_11 jw_262 ?_
    exact J_iret (ty := .int) hR dX2_letWeeksPass_13 rfl rfl (Nat.le_of_ble_eq_true rfl) (Nat.le_of_ble_eq_true rfl) (jRes_f (by first | (simp only [fX2_letWeeksPass, if_pos h1]; done) | rfl | (simp only [fX2_letWeeksPass, if_pos h1]; rfl)))
  · skip
    refine J_iload_n dX2_letWeeksPass_5 rfl ?_
    refine J_bipush (60) dX2_letWeeksPass_6 rfl ?_
    refine J_icmp_le (tgt := 14) dX2_letWeeksPass_8 (by decide) (fun h2 => ?_) (fun h2 => ?_)
    · skip
      refine J_aload_n dX2_letWeeksPass_14 rfl rfl ?_
      refine J_getI dX2_letWeeksPass_15 flX2_39 rfl hH.1 ?_
      refine J_iload_n dX2_letWeeksPass_18 rfl ?_
      refine J_iadd dX2_letWeeksPass_19 ?_
      refine J_sipush (9999) dX2_letWeeksPass_20 rfl ?_
      refine J_icmp_le (tgt := 29) dX2_letWeeksPass_23 (by decide) (fun h3 => ?_) (fun h3 => ?_)
      · skip
        refine J_iconst (0) dX2_letWeeksPass_29 rfl ?_
        refine J_istore_n dX2_letWeeksPass_30 (Nat.le_of_ble_eq_true rfl) ?_
        refine J_iconst (0) dX2_letWeeksPass_31 rfl ?_
        refine J_istore_n dX2_letWeeksPass_32 (Nat.le_of_ble_eq_true rfl) ?_
        obtain ⟨m, hm1, hm, rfl⟩ := j60 h1 h2
        exact lX2_letWeeksPass hR hH hI hm (by unfold fX2_letWeeksPass; simp only [if_neg h1, if_pos h2, if_pos h3, nI_clamp (show m < 2 ^ 31 by omega)]; exact ⟨rfl, rfl, rfl⟩) m 0 (by omega)
      · skip
        refine J_ldc (-2000000003) dX2_letWeeksPass_26 jw_263 ?_
        exact J_iret (ty := .int) hR dX2_letWeeksPass_28 rfl rfl (Nat.le_of_ble_eq_true rfl) (Nat.le_of_ble_eq_true rfl) (jRes_f (by first | (simp only [fX2_letWeeksPass, if_neg h1, if_pos h2, if_neg h3]; done) | rfl | (simp only [fX2_letWeeksPass, if_neg h1, if_pos h2, if_neg h3]; rfl)))
    · skip
      refine J_ldc (-2000000001) dX2_letWeeksPass_11 jw_262 ?_
      exact J_iret (ty := .int) hR dX2_letWeeksPass_13 rfl rfl (Nat.le_of_ble_eq_true rfl) (Nat.le_of_ble_eq_true rfl) (jRes_f (by first | (simp only [fX2_letWeeksPass, if_neg h1, if_neg h2]; done) | rfl | (simp only [fX2_letWeeksPass, if_neg h1, if_neg h2]; rfl)))
def cSet (I : jI) (o : Nat) (x : Int32) : Nat → Int32
  | 0 => 0
  | i + 1 => if fX2_isInSet I o (o + 5 + i) x = 0 then cSet I o x i else cSet I o x i ||| ((1 : Int32) <<< (nI i &&& 31))
def fX2_setOfBoilers (I : jI) (o : Nat) (x : Int32) : Int32 := cSet I o x (I o 4).toNatClampNeg
def cSum (I : jI) (o : Nat) (x : Int32) : Nat → Int32
  | 0 => 0
  | i + 1 => cSum I o x i + fX3_fact I (o + 13 + i) x
def fX2_allOfInspectors (I : jI) (o : Nat) (x : Int32) : Int32 := cSum I o x (I o 5).toNatClampNeg
def cFirst (I : jI) (o : Nat) : Nat → Int32 × Int32
  | 0 => ((-2000000004), (-2000000004))
  | i + 1 => if I (o + 5 + i) 3 = 1 then (if (cFirst I o i).1 = (-2000000004) then (nI i, I (o + 5 + i) 10) else if (cFirst I o i).2 ≤ I (o + 5 + i) 10 then cFirst I o i else (nI i, I (o + 5 + i) 10)) else cFirst I o i
def fX2_firstToRunOut (I : jI) (o : Nat) (x : Int32) : Int32 :=
  if x < 0 then (-2000000001) else if x ≤ 1 then (if x = 0 then (cFirst I o (I o 4).toNatClampNeg).1 else (cFirst I o (I o 4).toNatClampNeg).2) else (-2000000001)
set_option maxRecDepth 100000 in
set_option maxHeartbeats 4000000 in
theorem lX2_setOfBoilers {S : jX} {I : jI} {o : Nat} {G : jG} {Φ : Option Value → jX → jI → Prop} {x : Int32} (hR : jR G (3, 0, 0) Φ) (hH : jHouse S o) {n : Nat} (hn : n ≤ 8) (hcc : I o 4 = nI n) (hbb : ∀ i, i < n → jBb I (o + 5 + i)) (hΦ : Φ (some (.int (cSet I o x n))) S I) : ∀ (c i : Nat), i + c = n → ∀ v9 : Value, J G (3, 0, 0) mX2_setOfBoilers 4 [.ref o, .int x, .int (cSet I o x i), .int (nI i), v9] [] S I 0 0 := by
  intro c
  induction c with
  | zero =>
    intro i hi v9
    have hi2 : i = n := by omega
    subst hi2
    refine J_iload_n dX2_setOfBoilers_4 rfl ?_
    refine J_aload_n dX2_setOfBoilers_5 rfl rfl ?_
    refine J_getI dX2_setOfBoilers_6 flX2_32 rfl hH.1 ?_
    refine J_icmp_ge (tgt := 46) dX2_setOfBoilers_9 (by decide) (fun h1 => ?_) (fun h1 => ?_)
    · skip
      refine J_iload_n dX2_setOfBoilers_46 rfl ?_
      exact J_iret (ty := .int) hR dX2_setOfBoilers_47 rfl rfl (Nat.le_of_ble_eq_true rfl) (Nat.le_of_ble_eq_true rfl) hΦ
    · skip
      exact absurd (by rw [hcc]; exact Int32.le_refl _) h1
  | succ c ih =>
    intro i hi v9
    refine J_iload_n dX2_setOfBoilers_4 rfl ?_
    refine J_aload_n dX2_setOfBoilers_5 rfl rfl ?_
    refine J_getI dX2_setOfBoilers_6 flX2_32 rfl hH.1 ?_
    refine J_icmp_ge (tgt := 46) dX2_setOfBoilers_9 (by decide) (fun h1 => ?_) (fun h1 => ?_)
    · skip
      exact absurd h1 (by rw [hcc]; exact nI_ge (by omega) (by omega))
    · skip
      refine J_aload_n dX2_setOfBoilers_12 rfl rfl ?_
      refine J_iload_n dX2_setOfBoilers_13 rfl ?_
      refine J_cV1r (mc := mX2_boilerAt) hH.1 (by decide) rfl dX2_setOfBoilers_14 mlX2_52 okX2_boilerAt (kX2_boilerAt S I o (nI i) hH) (Nat.le_of_ble_eq_true rfl) (Nat.le_of_ble_eq_true rfl) (Nat.le_of_ble_eq_true rfl) (Nat.le_of_ble_eq_true rfl) ?_
      rw [boilerAt_ok hn hcc (by omega)]
      refine J_astore dX2_setOfBoilers_17 (Nat.le_of_ble_eq_true rfl) rfl ?_
      refine J_aload dX2_setOfBoilers_19 rfl rfl ?_
      refine J_ifnull_r dX2_setOfBoilers_21 ?_
      refine J_aload_n dX2_setOfBoilers_24 rfl rfl ?_
      refine J_aload dX2_setOfBoilers_25 rfl rfl ?_
      refine J_iload_n dX2_setOfBoilers_27 rfl ?_
      refine J_cV2r (mc := mX2_isInSet) hH.1 (by decide) rfl dX2_setOfBoilers_28 mlX2_224 okX2_isInSet (kX2_isInSet S I o (o + 5 + i) x hH (hH.b (by omega : i < 8)).1 (hbb i (by omega)).1 (hbb i (by omega)).2.1) (Nat.le_of_ble_eq_true rfl) (Nat.le_of_ble_eq_true rfl) (Nat.le_of_ble_eq_true rfl) (Nat.le_of_ble_eq_true rfl) ?_
      refine J_if_eq (tgt := 40) dX2_setOfBoilers_31 (by decide) (fun h2 => ?_) (fun h2 => ?_)
      · skip
        refine J_iinc (y := 1) dX2_setOfBoilers_40 rfl rfl ?_
        refine J_goto (tgt := 4) dX2_setOfBoilers_43 (by decide) ?_
        refine J_eq (ls' := [.ref o, .int x, .int (cSet I o x (i + 1)), .int (nI (i + 1)), .ref (o + 5 + i)]) (by rw [← nI_1]; simp only [cSet, if_neg h1, if_pos h2]; rfl) rfl (ih (i + 1) (by omega) _)
      · skip
        refine J_iload_n dX2_setOfBoilers_34 rfl ?_
        refine J_iconst (1) dX2_setOfBoilers_35 rfl ?_
        refine J_iload_n dX2_setOfBoilers_36 rfl ?_
        refine J_ishl dX2_setOfBoilers_37 ?_
        refine J_ior dX2_setOfBoilers_38 ?_
        refine J_istore_n dX2_setOfBoilers_39 (Nat.le_of_ble_eq_true rfl) ?_
        refine J_iinc (y := 1) dX2_setOfBoilers_40 rfl rfl ?_
        refine J_goto (tgt := 4) dX2_setOfBoilers_43 (by decide) ?_
        refine J_eq (ls' := [.ref o, .int x, .int (cSet I o x (i + 1)), .int (nI (i + 1)), .ref (o + 5 + i)]) (by rw [← nI_1]; simp only [cSet, if_neg h1, if_neg h2]; rfl) rfl (ih (i + 1) (by omega) _)
set_option maxRecDepth 100000 in
set_option maxHeartbeats 4000000 in
theorem kX2_setOfBoilers (S : jX) (I : jI) (o : Nat) (x : Int32) (hH : jHouse S o) (hI : jHInv I o) : jM (3, 0, 0) mX2_setOfBoilers [.ref o, .int x] S I (jRes (some (.int (fX2_setOfBoilers I o x))) S I) := by
  refine jM.of (ls := [.ref o, .int x, .long 0, .long 0, .long 0]) (by decide) (Nat.le_of_ble_eq_true rfl) (by intro v hv; simp only [List.mem_cons, List.not_mem_nil, or_false] at hv; rcases hv with rfl | rfl <;> rfl) rfl (fun G hR => ?_)
  obtain ⟨⟨n, hn, hc, hbb⟩, m, hm, hc1⟩ := hI
  refine J_iconst (0) dX2_setOfBoilers_0 rfl ?_
  refine J_istore_n dX2_setOfBoilers_1 (Nat.le_of_ble_eq_true rfl) ?_
  refine J_iconst (0) dX2_setOfBoilers_2 rfl ?_
  refine J_istore_n dX2_setOfBoilers_3 (Nat.le_of_ble_eq_true rfl) ?_
  exact lX2_setOfBoilers hR hH hn hc hbb (by unfold fX2_setOfBoilers; rw [hc, nI_clamp (by omega)]; exact ⟨rfl, rfl, rfl⟩) n 0 (by omega) _
set_option maxRecDepth 100000 in
set_option maxHeartbeats 4000000 in
theorem lX2_allOfInspectors {S : jX} {I : jI} {o : Nat} {G : jG} {Φ : Option Value → jX → jI → Prop} {x : Int32} (hR : jR G (2, 0, 0) Φ) (hH : jHouse S o) {m : Nat} (hm : m ≤ 6) (hcc : I o 5 = nI m) (hΦ : Φ (some (.int (cSum I o x m))) S I) : ∀ (c i : Nat), i + c = m → ∀ v9 : Value, J G (2, 0, 0) mX2_allOfInspectors 4 [.ref o, .int x, .int (cSum I o x i), .int (nI i), v9] [] S I 0 0 := by
  intro c
  induction c with
  | zero =>
    intro i hi v9
    have hi2 : i = m := by omega
    subst hi2
    refine J_iload_n dX2_allOfInspectors_4 rfl ?_
    refine J_aload_n dX2_allOfInspectors_5 rfl rfl ?_
    refine J_getI dX2_allOfInspectors_6 flX2_36 rfl hH.1 ?_
    refine J_icmp_ge (tgt := 39) dX2_allOfInspectors_9 (by decide) (fun h1 => ?_) (fun h1 => ?_)
    · skip
      refine J_iload_n dX2_allOfInspectors_39 rfl ?_
      exact J_iret (ty := .int) hR dX2_allOfInspectors_40 rfl rfl (Nat.le_of_ble_eq_true rfl) (Nat.le_of_ble_eq_true rfl) hΦ
    · skip
      exact absurd (by rw [hcc]; exact Int32.le_refl _) h1
  | succ c ih =>
    intro i hi v9
    refine J_iload_n dX2_allOfInspectors_4 rfl ?_
    refine J_aload_n dX2_allOfInspectors_5 rfl rfl ?_
    refine J_getI dX2_allOfInspectors_6 flX2_36 rfl hH.1 ?_
    refine J_icmp_ge (tgt := 39) dX2_allOfInspectors_9 (by decide) (fun h1 => ?_) (fun h1 => ?_)
    · skip
      exact absurd h1 (by rw [hcc]; exact nI_ge (by omega) (by omega))
    · skip
      refine J_aload_n dX2_allOfInspectors_12 rfl rfl ?_
      refine J_iload_n dX2_allOfInspectors_13 rfl ?_
      refine J_cV1r (mc := mX2_inspectorAt) hH.1 (by decide) rfl dX2_allOfInspectors_14 mlX2_60 okX2_inspectorAt (kX2_inspectorAt S I o (nI i) hH) (Nat.le_of_ble_eq_true rfl) (Nat.le_of_ble_eq_true rfl) (Nat.le_of_ble_eq_true rfl) (Nat.le_of_ble_eq_true rfl) ?_
      rw [inspectorAt_ok hm hcc (by omega)]
      refine J_astore dX2_allOfInspectors_17 (Nat.le_of_ble_eq_true rfl) rfl ?_
      refine J_aload dX2_allOfInspectors_19 rfl rfl ?_
      refine J_ifnull_r dX2_allOfInspectors_21 ?_
      refine J_iload_n dX2_allOfInspectors_24 rfl ?_
      refine J_aload dX2_allOfInspectors_25 rfl rfl ?_
      refine J_iload_n dX2_allOfInspectors_27 rfl ?_
      refine J_cV1r (mc := mX3_fact) (hH.c (by omega : i < 6)).1 (by decide) rfl dX2_allOfInspectors_28 mlX2_197 okX3_fact (kX3_fact S I (o + 13 + i) x (hH.c (by omega : i < 6)).1) (Nat.le_of_ble_eq_true rfl) (Nat.le_of_ble_eq_true rfl) (Nat.le_of_ble_eq_true rfl) (Nat.le_of_ble_eq_true rfl) ?_
      refine J_iadd dX2_allOfInspectors_31 ?_
      refine J_istore_n dX2_allOfInspectors_32 (Nat.le_of_ble_eq_true rfl) ?_
      refine J_iinc (y := 1) dX2_allOfInspectors_33 rfl rfl ?_
      refine J_goto (tgt := 4) dX2_allOfInspectors_36 (by decide) ?_
      refine J_eq (ls' := [.ref o, .int x, .int (cSum I o x (i + 1)), .int (nI (i + 1)), .ref (o + 13 + i)]) (by rw [← nI_1]; rfl) rfl (ih (i + 1) (by omega) _)
set_option maxRecDepth 100000 in
set_option maxHeartbeats 4000000 in
theorem kX2_allOfInspectors (S : jX) (I : jI) (o : Nat) (x : Int32) (hH : jHouse S o) (hI : jHInv I o) : jM (2, 0, 0) mX2_allOfInspectors [.ref o, .int x] S I (jRes (some (.int (fX2_allOfInspectors I o x))) S I) := by
  refine jM.of (ls := [.ref o, .int x, .long 0, .long 0, .long 0]) (by decide) (Nat.le_of_ble_eq_true rfl) (by intro v hv; simp only [List.mem_cons, List.not_mem_nil, or_false] at hv; rcases hv with rfl | rfl <;> rfl) rfl (fun G hR => ?_)
  obtain ⟨⟨n, hn, hc, hbb⟩, m, hm, hc1⟩ := hI
  refine J_iconst (0) dX2_allOfInspectors_0 rfl ?_
  refine J_istore_n dX2_allOfInspectors_1 (Nat.le_of_ble_eq_true rfl) ?_
  refine J_iconst (0) dX2_allOfInspectors_2 rfl ?_
  refine J_istore_n dX2_allOfInspectors_3 (Nat.le_of_ble_eq_true rfl) ?_
  exact lX2_allOfInspectors hR hH hm hc1 (by unfold fX2_allOfInspectors; rw [hc1, nI_clamp (by omega)]; exact ⟨rfl, rfl, rfl⟩) m 0 (by omega) _
set_option maxRecDepth 100000 in
set_option maxHeartbeats 4000000 in
theorem lX2_firstToRunOut {S : jX} {I : jI} {o : Nat} {G : jG} {x : Int32} (hH : jHouse S o) {n : Nat} (hn : n ≤ 8) (hcc : I o 4 = nI n) (hnx : ∀ v9 : Value, J G (1, 0, 0) mX2_firstToRunOut 85 [.ref o, .int x, .int (cFirst I o n).1, .int (cFirst I o n).2, .int (nI n), v9] [] S I 0 0) : ∀ (c i : Nat), i + c = n → ∀ v9 : Value, J G (1, 0, 0) mX2_firstToRunOut 21 [.ref o, .int x, .int (cFirst I o i).1, .int (cFirst I o i).2, .int (nI i), v9] [] S I 0 0 := by
  intro c
  induction c with
  | zero =>
    intro i hi v9
    have hi2 : i = n := by omega
    subst hi2
    refine J_iload dX2_firstToRunOut_21 rfl ?_
    refine J_aload_n dX2_firstToRunOut_23 rfl rfl ?_
    refine J_getI dX2_firstToRunOut_24 flX2_32 rfl hH.1 ?_
    refine J_icmp_ge (tgt := 85) dX2_firstToRunOut_27 (by decide) (fun h1 => ?_) (fun h1 => ?_)
    · skip
      exact hnx _
    · skip
      exact absurd (by rw [hcc]; exact Int32.le_refl _) h1
  | succ c ih =>
    intro i hi v9
    refine J_iload dX2_firstToRunOut_21 rfl ?_
    refine J_aload_n dX2_firstToRunOut_23 rfl rfl ?_
    refine J_getI dX2_firstToRunOut_24 flX2_32 rfl hH.1 ?_
    refine J_icmp_ge (tgt := 85) dX2_firstToRunOut_27 (by decide) (fun h1 => ?_) (fun h1 => ?_)
    · skip
      exact absurd h1 (by rw [hcc]; exact nI_ge (by omega) (by omega))
    · skip
      refine J_aload_n dX2_firstToRunOut_30 rfl rfl ?_
      refine J_iload dX2_firstToRunOut_31 rfl ?_
      refine J_cV1r (mc := mX2_boilerAt) hH.1 (by decide) rfl dX2_firstToRunOut_33 mlX2_52 okX2_boilerAt (kX2_boilerAt S I o (nI i) hH) (Nat.le_of_ble_eq_true rfl) (Nat.le_of_ble_eq_true rfl) (Nat.le_of_ble_eq_true rfl) (Nat.le_of_ble_eq_true rfl) ?_
      rw [boilerAt_ok hn hcc (by omega)]
      refine J_astore dX2_firstToRunOut_36 (Nat.le_of_ble_eq_true rfl) rfl ?_
      refine J_aload dX2_firstToRunOut_38 rfl rfl ?_
      refine J_ifnull_r dX2_firstToRunOut_40 ?_
      refine J_aload dX2_firstToRunOut_43 rfl rfl ?_
      refine J_getI dX2_firstToRunOut_45 flX2_83 rfl (hH.b (by omega : i < 8)).1 ?_
      refine J_iconst (1) dX2_firstToRunOut_48 rfl ?_
      refine J_icmp_eq (tgt := 55) dX2_firstToRunOut_49 (by decide) (fun h2 => ?_) (fun h2 => ?_)
      · skip
        refine J_iload_n dX2_firstToRunOut_55 rfl ?_
        refine J_ldc (-2000000004) dX2_firstToRunOut_56 jw_517 ?_
        refine J_icmp_eq (tgt := 70) dX2_firstToRunOut_58 (by decide) (fun h3 => ?_) (fun h3 => ?_)
        · skip
          refine J_iload dX2_firstToRunOut_70 rfl ?_
          refine J_istore_n dX2_firstToRunOut_72 (Nat.le_of_ble_eq_true rfl) ?_
          refine J_aload dX2_firstToRunOut_73 rfl rfl ?_
          refine J_getI dX2_firstToRunOut_75 flX2_128 rfl (hH.b (by omega : i < 8)).1 ?_
          refine J_istore_n dX2_firstToRunOut_78 (Nat.le_of_ble_eq_true rfl) ?_
          refine J_iinc (y := 1) dX2_firstToRunOut_79 rfl rfl ?_
          refine J_goto (tgt := 21) dX2_firstToRunOut_82 (by decide) ?_
          refine J_eq (ls' := [.ref o, .int x, .int (cFirst I o (i + 1)).1, .int (cFirst I o (i + 1)).2, .int (nI (i + 1)), .ref (o + 5 + i)]) (by rw [← nI_1]; simp only [cFirst, if_neg h1, if_pos h2, if_pos h3]; rfl) rfl (ih (i + 1) (by omega) _)
        · skip
          refine J_aload dX2_firstToRunOut_61 rfl rfl ?_
          refine J_getI dX2_firstToRunOut_63 flX2_128 rfl (hH.b (by omega : i < 8)).1 ?_
          refine J_iload_n dX2_firstToRunOut_66 rfl ?_
          refine J_icmp_ge (tgt := 79) dX2_firstToRunOut_67 (by decide) (fun h4 => ?_) (fun h4 => ?_)
          · skip
            refine J_iinc (y := 1) dX2_firstToRunOut_79 rfl rfl ?_
            refine J_goto (tgt := 21) dX2_firstToRunOut_82 (by decide) ?_
            refine J_eq (ls' := [.ref o, .int x, .int (cFirst I o (i + 1)).1, .int (cFirst I o (i + 1)).2, .int (nI (i + 1)), .ref (o + 5 + i)]) (by rw [← nI_1]; simp only [cFirst, if_neg h1, if_pos h2, if_neg h3, if_pos h4]; rfl) rfl (ih (i + 1) (by omega) _)
          · skip
            refine J_iload dX2_firstToRunOut_70 rfl ?_
            refine J_istore_n dX2_firstToRunOut_72 (Nat.le_of_ble_eq_true rfl) ?_
            refine J_aload dX2_firstToRunOut_73 rfl rfl ?_
            refine J_getI dX2_firstToRunOut_75 flX2_128 rfl (hH.b (by omega : i < 8)).1 ?_
            refine J_istore_n dX2_firstToRunOut_78 (Nat.le_of_ble_eq_true rfl) ?_
            refine J_iinc (y := 1) dX2_firstToRunOut_79 rfl rfl ?_
            refine J_goto (tgt := 21) dX2_firstToRunOut_82 (by decide) ?_
            refine J_eq (ls' := [.ref o, .int x, .int (cFirst I o (i + 1)).1, .int (cFirst I o (i + 1)).2, .int (nI (i + 1)), .ref (o + 5 + i)]) (by rw [← nI_1]; simp only [cFirst, if_neg h1, if_pos h2, if_neg h3, if_neg h4]; rfl) rfl (ih (i + 1) (by omega) _)
      · skip
        refine J_goto (tgt := 79) dX2_firstToRunOut_52 (by decide) ?_
        refine J_iinc (y := 1) dX2_firstToRunOut_79 rfl rfl ?_
        refine J_goto (tgt := 21) dX2_firstToRunOut_82 (by decide) ?_
        refine J_eq (ls' := [.ref o, .int x, .int (cFirst I o (i + 1)).1, .int (cFirst I o (i + 1)).2, .int (nI (i + 1)), .ref (o + 5 + i)]) (by rw [← nI_1]; simp only [cFirst, if_neg h1, if_neg h2]; rfl) rfl (ih (i + 1) (by omega) _)
set_option maxRecDepth 100000 in
set_option maxHeartbeats 4000000 in
theorem kX2_firstToRunOut (S : jX) (I : jI) (o : Nat) (x : Int32) (hH : jHouse S o) (hI : jHInv I o) : jM (1, 0, 0) mX2_firstToRunOut [.ref o, .int x] S I (jRes (some (.int (fX2_firstToRunOut I o x))) S I) := by
  refine jM.of (ls := [.ref o, .int x, .long 0, .long 0, .long 0, .long 0]) (by decide) (Nat.le_of_ble_eq_true rfl) (by intro v hv; simp only [List.mem_cons, List.not_mem_nil, or_false] at hv; rcases hv with rfl | rfl <;> rfl) rfl (fun G hR => ?_)
  obtain ⟨⟨n, hn, hc, hbb⟩, m, hm, hc1⟩ := hI
  refine J_iload_n dX2_firstToRunOut_0 rfl ?_
  refine J_if_lt (tgt := 9) dX2_firstToRunOut_1 (by decide) (fun h1 => ?_) (fun h1 => ?_)
  · skip
    refine J_ldc (-2000000001) dX2_firstToRunOut_9 jw_262 ?_
    exact J_iret (ty := .int) hR dX2_firstToRunOut_11 rfl rfl (Nat.le_of_ble_eq_true rfl) (Nat.le_of_ble_eq_true rfl) (jRes_i (by first | (simp only [fX2_firstToRunOut, if_pos h1]; done) | rfl | (simp only [fX2_firstToRunOut, if_pos h1]; rfl)) rfl)
  · skip
    refine J_iload_n dX2_firstToRunOut_4 rfl ?_
    refine J_iconst (1) dX2_firstToRunOut_5 rfl ?_
    refine J_icmp_le (tgt := 12) dX2_firstToRunOut_6 (by decide) (fun h2 => ?_) (fun h2 => ?_)
    · skip
      refine J_ldc (-2000000004) dX2_firstToRunOut_12 jw_517 ?_
      refine J_istore_n dX2_firstToRunOut_14 (Nat.le_of_ble_eq_true rfl) ?_
      refine J_ldc (-2000000004) dX2_firstToRunOut_15 jw_517 ?_
      refine J_istore_n dX2_firstToRunOut_17 (Nat.le_of_ble_eq_true rfl) ?_
      refine J_iconst (0) dX2_firstToRunOut_18 rfl ?_
      refine J_istore dX2_firstToRunOut_19 (Nat.le_of_ble_eq_true rfl) ?_
      have q0 : (I o 4).toNatClampNeg = n := by rw [hc]; exact nI_clamp (by omega)
      refine lX2_firstToRunOut hH hn hc (fun v9 => ?_) n 0 (by omega) _
      refine J_iload_n dX2_firstToRunOut_85 rfl ?_
      refine J_if_ne (tgt := 93) dX2_firstToRunOut_86 (by decide) (fun h51 => ?_) (fun h51 => ?_)
      · skip
        refine J_iload_n dX2_firstToRunOut_93 rfl ?_
        exact J_iret (ty := .int) hR dX2_firstToRunOut_94 rfl rfl (Nat.le_of_ble_eq_true rfl) (Nat.le_of_ble_eq_true rfl) (jRes_i (by first | (simp only [fX2_firstToRunOut, if_neg h1, if_pos h2, q0, if_neg h51]; done) | rfl | (simp only [fX2_firstToRunOut, if_neg h1, if_pos h2, q0, if_neg h51]; rfl)) rfl)
      · skip
        refine J_iload_n dX2_firstToRunOut_89 rfl ?_
        refine J_goto (tgt := 94) dX2_firstToRunOut_90 (by decide) ?_
        exact J_iret (ty := .int) hR dX2_firstToRunOut_94 rfl rfl (Nat.le_of_ble_eq_true rfl) (Nat.le_of_ble_eq_true rfl) (jRes_i (by first | (simp only [fX2_firstToRunOut, if_neg h1, if_pos h2, q0, if_pos h51]; done) | rfl | (simp only [fX2_firstToRunOut, if_neg h1, if_pos h2, q0, if_pos h51]; rfl)) rfl)
    · skip
      refine J_ldc (-2000000001) dX2_firstToRunOut_9 jw_262 ?_
      exact J_iret (ty := .int) hR dX2_firstToRunOut_11 rfl rfl (Nat.le_of_ble_eq_true rfl) (Nat.le_of_ble_eq_true rfl) (jRes_i (by first | (simp only [fX2_firstToRunOut, if_neg h1, if_neg h2]; done) | rfl | (simp only [fX2_firstToRunOut, if_neg h1, if_neg h2]; rfl)) rfl)
def fX2_allAccounts (I : jI) (o : Nat) : Int32 :=
  ((((0 + (I (o + 4) ((0 : Int32).toNatClampNeg))) + (I (o + 4) ((1 : Int32).toNatClampNeg))) + (I (o + 4) ((2 : Int32).toNatClampNeg))) + (I (o + 4) ((3 : Int32).toNatClampNeg)))
set_option maxRecDepth 100000 in
set_option maxHeartbeats 4000000 in
theorem kX2_allAccounts (S : jX) (I : jI) (o : Nat) (hH : jHouse S o) : jM (0, 0, 0) mX2_allAccounts [.ref o] S I (jRes (some (.int (fX2_allAccounts I o))) S I) := by
  refine jM.of (ls := [.ref o, .long 0, .long 0, .long 0, .long 0, .long 0]) (by decide) (Nat.le_of_ble_eq_true rfl) (by intro v hv; simp only [List.mem_cons, List.not_mem_nil, or_false] at hv; rcases hv with rfl <;> rfl) rfl (fun G hR => ?_)
  refine J_iconst (0) dX2_allAccounts_0 rfl ?_
  refine J_istore_n dX2_allAccounts_1 (Nat.le_of_ble_eq_true rfl) ?_
  refine J_aload_n dX2_allAccounts_2 rfl rfl ?_
  refine J_getR dX2_allAccounts_3 flX2_27 rfl hH.1 hH.r3 ?_
  refine J_astore_n dX2_allAccounts_6 (Nat.le_of_ble_eq_true rfl) rfl ?_
  refine J_aload_n dX2_allAccounts_7 rfl rfl ?_
  refine J_alen (x := 4) dX2_allAccounts_8 hH.a3 ⟨by decide, by decide⟩ rfl ?_
  refine J_istore_n dX2_allAccounts_9 (Nat.le_of_ble_eq_true rfl) ?_
  refine J_iconst (0) dX2_allAccounts_10 rfl ?_
  refine J_istore dX2_allAccounts_11 (Nat.le_of_ble_eq_true rfl) ?_
  refine J_iload dX2_allAccounts_13 rfl ?_
  refine J_iload_n dX2_allAccounts_15 rfl ?_
  refine J_icmp_ge (tgt := 36) dX2_allAccounts_16 (by decide) (fun h1 => ?_) (fun h1 => ?_)
  · skip
    exact absurd h1 (by decide)
  · skip
    refine J_aload_n dX2_allAccounts_19 rfl rfl ?_
    refine J_iload dX2_allAccounts_20 rfl ?_
    refine J_iaload dX2_allAccounts_22 hH.a3 (by unfold vp_in; decide) ?_
    refine J_istore dX2_allAccounts_23 (Nat.le_of_ble_eq_true rfl) ?_
    refine J_iload_n dX2_allAccounts_25 rfl ?_
    refine J_iload dX2_allAccounts_26 rfl ?_
    refine J_iadd dX2_allAccounts_28 ?_
    refine J_istore_n dX2_allAccounts_29 (Nat.le_of_ble_eq_true rfl) ?_
    refine J_iincv (y := 1) (v := 1) dX2_allAccounts_30 rfl rfl rfl ?_
    refine J_goto (tgt := 13) dX2_allAccounts_33 (by decide) ?_
    refine J_iload dX2_allAccounts_13 rfl ?_
    refine J_iload_n dX2_allAccounts_15 rfl ?_
    refine J_icmp_ge (tgt := 36) dX2_allAccounts_16 (by decide) (fun h2 => ?_) (fun h2 => ?_)
    · skip
      exact absurd h2 (by decide)
    · skip
      refine J_aload_n dX2_allAccounts_19 rfl rfl ?_
      refine J_iload dX2_allAccounts_20 rfl ?_
      refine J_iaload dX2_allAccounts_22 hH.a3 (by unfold vp_in; decide) ?_
      refine J_istore dX2_allAccounts_23 (Nat.le_of_ble_eq_true rfl) ?_
      refine J_iload_n dX2_allAccounts_25 rfl ?_
      refine J_iload dX2_allAccounts_26 rfl ?_
      refine J_iadd dX2_allAccounts_28 ?_
      refine J_istore_n dX2_allAccounts_29 (Nat.le_of_ble_eq_true rfl) ?_
      refine J_iincv (y := 1) (v := 2) dX2_allAccounts_30 rfl rfl rfl ?_
      refine J_goto (tgt := 13) dX2_allAccounts_33 (by decide) ?_
      refine J_iload dX2_allAccounts_13 rfl ?_
      refine J_iload_n dX2_allAccounts_15 rfl ?_
      refine J_icmp_ge (tgt := 36) dX2_allAccounts_16 (by decide) (fun h3 => ?_) (fun h3 => ?_)
      · skip
        exact absurd h3 (by decide)
      · skip
        refine J_aload_n dX2_allAccounts_19 rfl rfl ?_
        refine J_iload dX2_allAccounts_20 rfl ?_
        refine J_iaload dX2_allAccounts_22 hH.a3 (by unfold vp_in; decide) ?_
        refine J_istore dX2_allAccounts_23 (Nat.le_of_ble_eq_true rfl) ?_
        refine J_iload_n dX2_allAccounts_25 rfl ?_
        refine J_iload dX2_allAccounts_26 rfl ?_
        refine J_iadd dX2_allAccounts_28 ?_
        refine J_istore_n dX2_allAccounts_29 (Nat.le_of_ble_eq_true rfl) ?_
        refine J_iincv (y := 1) (v := 3) dX2_allAccounts_30 rfl rfl rfl ?_
        refine J_goto (tgt := 13) dX2_allAccounts_33 (by decide) ?_
        refine J_iload dX2_allAccounts_13 rfl ?_
        refine J_iload_n dX2_allAccounts_15 rfl ?_
        refine J_icmp_ge (tgt := 36) dX2_allAccounts_16 (by decide) (fun h4 => ?_) (fun h4 => ?_)
        · skip
          exact absurd h4 (by decide)
        · skip
          refine J_aload_n dX2_allAccounts_19 rfl rfl ?_
          refine J_iload dX2_allAccounts_20 rfl ?_
          refine J_iaload dX2_allAccounts_22 hH.a3 (by unfold vp_in; decide) ?_
          refine J_istore dX2_allAccounts_23 (Nat.le_of_ble_eq_true rfl) ?_
          refine J_iload_n dX2_allAccounts_25 rfl ?_
          refine J_iload dX2_allAccounts_26 rfl ?_
          refine J_iadd dX2_allAccounts_28 ?_
          refine J_istore_n dX2_allAccounts_29 (Nat.le_of_ble_eq_true rfl) ?_
          refine J_iincv (y := 1) (v := 4) dX2_allAccounts_30 rfl rfl rfl ?_
          refine J_goto (tgt := 13) dX2_allAccounts_33 (by decide) ?_
          refine J_iload dX2_allAccounts_13 rfl ?_
          refine J_iload_n dX2_allAccounts_15 rfl ?_
          refine J_icmp_ge (tgt := 36) dX2_allAccounts_16 (by decide) (fun h5 => ?_) (fun h5 => ?_)
          · skip
            refine J_iload_n dX2_allAccounts_36 rfl ?_
            exact J_iret (ty := .int) hR dX2_allAccounts_37 rfl rfl (Nat.le_of_ble_eq_true rfl) (Nat.le_of_ble_eq_true rfl) (jRes_i (by first | (simp only [fX2_allAccounts]; done) | rfl | (simp only [fX2_allAccounts]; rfl)) rfl)
          · skip
            exact absurd h5 (by decide)
def fX2_numberOf (I : jI) (o : Nat) (x : Int32) : Int32 :=
  if x < 20 then
    if x = 0 then
      (I o 4)
    else
      if x = 1 then
        (I o 5)
      else
        if x = 2 then
          (I o 6)
        else
          if x = 3 then
            (fX2_setOfBoilers I o x)
          else
            if x = 4 then
              (fX2_setOfBoilers I o x)
            else
              if x = 5 then
                (fX2_setOfBoilers I o x)
              else
                if x = 6 then
                  (fX2_setOfBoilers I o x)
                else
                  if x = 7 then
                    (fX2_allAccounts I o)
                  else
                    if x = 8 then
                      (fX2_allOfInspectors I o 3)
                    else
                      if x = 9 then
                        (fX2_allOfInspectors I o 4)
                      else
                        if x = 10 then
                          (I o 7)
                        else
                          if x = 11 then
                            (I o 8)
                          else
                            if x = 12 then
                              (fX2_setOfBoilers I o x)
                            else
                              (-2000000001)
  else
    if 23 < x then
      if x = 0 then
        (I o 4)
      else
        if x = 1 then
          (I o 5)
        else
          if x = 2 then
            (I o 6)
          else
            if x = 3 then
              (fX2_setOfBoilers I o x)
            else
              if x = 4 then
                (fX2_setOfBoilers I o x)
              else
                if x = 5 then
                  (fX2_setOfBoilers I o x)
                else
                  if x = 6 then
                    (fX2_setOfBoilers I o x)
                  else
                    if x = 7 then
                      (fX2_allAccounts I o)
                    else
                      if x = 8 then
                        (fX2_allOfInspectors I o 3)
                      else
                        if x = 9 then
                          (fX2_allOfInspectors I o 4)
                        else
                          if x = 10 then
                            (I o 7)
                          else
                            if x = 11 then
                              (I o 8)
                            else
                              if x = 12 then
                                (fX2_setOfBoilers I o x)
                              else
                                (-2000000001)
    else
      (fX2_settingAt I o (x - 20))
set_option maxRecDepth 100000 in
set_option maxHeartbeats 4000000 in
theorem kX2_numberOf (S : jX) (I : jI) (o : Nat) (x : Int32) (hH : jHouse S o) (hI : jHInv I o) : jM (4, 0, 0) mX2_numberOf [.ref o, .int x] S I (jRes (some (.int (fX2_numberOf I o x))) S I) := by
  refine jM.of (ls := [.ref o, .int x]) (by decide) (Nat.le_of_ble_eq_true rfl) (by intro v hv; simp only [List.mem_cons, List.not_mem_nil, or_false] at hv; rcases hv with rfl | rfl <;> rfl) rfl (fun G hR => ?_)
  refine J_iload_n dX2_numberOf_0 rfl ?_
  refine J_bipush (20) dX2_numberOf_1 rfl ?_
  refine J_icmp_lt (tgt := 21) dX2_numberOf_3 (by decide) (fun h1 => ?_) (fun h1 => ?_)
  · skip
    refine J_iload_n dX2_numberOf_21 rfl ?_
    by_cases h2 : x = 0
    · skip
      refine J_tabIn (off := 66) (tgt := 88) dX2_numberOf_22 (by rw [h2]; decide) (by rw [h2]; decide) (by rw [h2]; rfl) (by decide) ?_
      refine J_aload_n dX2_numberOf_88 rfl rfl ?_
      refine J_getI dX2_numberOf_89 flX2_32 rfl hH.1 ?_
      exact J_iret (ty := .int) hR dX2_numberOf_92 rfl rfl (Nat.le_of_ble_eq_true rfl) (Nat.le_of_ble_eq_true rfl) (jRes_i (by first | (simp only [fX2_numberOf, if_pos h1, if_pos h2]; done) | rfl | (simp only [fX2_numberOf, if_pos h1, if_pos h2]; rfl)) rfl)
    by_cases h3 : x = 1
    · skip
      refine J_tabIn (off := 71) (tgt := 93) dX2_numberOf_22 (by rw [h3]; decide) (by rw [h3]; decide) (by rw [h3]; rfl) (by decide) ?_
      refine J_aload_n dX2_numberOf_93 rfl rfl ?_
      refine J_getI dX2_numberOf_94 flX2_36 rfl hH.1 ?_
      exact J_iret (ty := .int) hR dX2_numberOf_97 rfl rfl (Nat.le_of_ble_eq_true rfl) (Nat.le_of_ble_eq_true rfl) (jRes_i (by first | (simp only [fX2_numberOf, if_pos h1, if_neg h2, if_pos h3]; done) | rfl | (simp only [fX2_numberOf, if_pos h1, if_neg h2, if_pos h3]; rfl)) rfl)
    by_cases h4 : x = 2
    · skip
      refine J_tabIn (off := 76) (tgt := 98) dX2_numberOf_22 (by rw [h4]; decide) (by rw [h4]; decide) (by rw [h4]; rfl) (by decide) ?_
      refine J_aload_n dX2_numberOf_98 rfl rfl ?_
      refine J_getI dX2_numberOf_99 flX2_39 rfl hH.1 ?_
      exact J_iret (ty := .int) hR dX2_numberOf_102 rfl rfl (Nat.le_of_ble_eq_true rfl) (Nat.le_of_ble_eq_true rfl) (jRes_i (by first | (simp only [fX2_numberOf, if_pos h1, if_neg h2, if_neg h3, if_pos h4]; done) | rfl | (simp only [fX2_numberOf, if_pos h1, if_neg h2, if_neg h3, if_pos h4]; rfl)) rfl)
    by_cases h5 : x = 3
    · skip
      refine J_tabIn (off := 81) (tgt := 103) dX2_numberOf_22 (by rw [h5]; decide) (by rw [h5]; decide) (by rw [h5]; rfl) (by decide) ?_
      refine J_aload_n dX2_numberOf_103 rfl rfl ?_
      refine J_iload_n dX2_numberOf_104 rfl ?_
      refine J_cV1r (mc := mX2_setOfBoilers) hH.1 (by decide) rfl dX2_numberOf_105 mlX2_215 okX2_setOfBoilers (kX2_setOfBoilers S I o x hH hI) (Nat.le_of_ble_eq_true rfl) (Nat.le_of_ble_eq_true rfl) (Nat.le_of_ble_eq_true rfl) (Nat.le_of_ble_eq_true rfl) ?_
      exact J_iret (ty := .int) hR dX2_numberOf_108 rfl rfl (Nat.le_of_ble_eq_true rfl) (Nat.le_of_ble_eq_true rfl) (jRes_i (by first | (simp only [fX2_numberOf, if_pos h1, if_neg h2, if_neg h3, if_neg h4, if_pos h5]; done) | rfl | (simp only [fX2_numberOf, if_pos h1, if_neg h2, if_neg h3, if_neg h4, if_pos h5]; rfl)) rfl)
    by_cases h6 : x = 4
    · skip
      refine J_tabIn (off := 81) (tgt := 103) dX2_numberOf_22 (by rw [h6]; decide) (by rw [h6]; decide) (by rw [h6]; rfl) (by decide) ?_
      refine J_aload_n dX2_numberOf_103 rfl rfl ?_
      refine J_iload_n dX2_numberOf_104 rfl ?_
      refine J_cV1r (mc := mX2_setOfBoilers) hH.1 (by decide) rfl dX2_numberOf_105 mlX2_215 okX2_setOfBoilers (kX2_setOfBoilers S I o x hH hI) (Nat.le_of_ble_eq_true rfl) (Nat.le_of_ble_eq_true rfl) (Nat.le_of_ble_eq_true rfl) (Nat.le_of_ble_eq_true rfl) ?_
      exact J_iret (ty := .int) hR dX2_numberOf_108 rfl rfl (Nat.le_of_ble_eq_true rfl) (Nat.le_of_ble_eq_true rfl) (jRes_i (by first | (simp only [fX2_numberOf, if_pos h1, if_neg h2, if_neg h3, if_neg h4, if_neg h5, if_pos h6]; done) | rfl | (simp only [fX2_numberOf, if_pos h1, if_neg h2, if_neg h3, if_neg h4, if_neg h5, if_pos h6]; rfl)) rfl)
    by_cases h7 : x = 5
    · skip
      refine J_tabIn (off := 81) (tgt := 103) dX2_numberOf_22 (by rw [h7]; decide) (by rw [h7]; decide) (by rw [h7]; rfl) (by decide) ?_
      refine J_aload_n dX2_numberOf_103 rfl rfl ?_
      refine J_iload_n dX2_numberOf_104 rfl ?_
      refine J_cV1r (mc := mX2_setOfBoilers) hH.1 (by decide) rfl dX2_numberOf_105 mlX2_215 okX2_setOfBoilers (kX2_setOfBoilers S I o x hH hI) (Nat.le_of_ble_eq_true rfl) (Nat.le_of_ble_eq_true rfl) (Nat.le_of_ble_eq_true rfl) (Nat.le_of_ble_eq_true rfl) ?_
      exact J_iret (ty := .int) hR dX2_numberOf_108 rfl rfl (Nat.le_of_ble_eq_true rfl) (Nat.le_of_ble_eq_true rfl) (jRes_i (by first | (simp only [fX2_numberOf, if_pos h1, if_neg h2, if_neg h3, if_neg h4, if_neg h5, if_neg h6, if_pos h7]; done) | rfl | (simp only [fX2_numberOf, if_pos h1, if_neg h2, if_neg h3, if_neg h4, if_neg h5, if_neg h6, if_pos h7]; rfl)) rfl)
    by_cases h8 : x = 6
    · skip
      refine J_tabIn (off := 81) (tgt := 103) dX2_numberOf_22 (by rw [h8]; decide) (by rw [h8]; decide) (by rw [h8]; rfl) (by decide) ?_
      refine J_aload_n dX2_numberOf_103 rfl rfl ?_
      refine J_iload_n dX2_numberOf_104 rfl ?_
      refine J_cV1r (mc := mX2_setOfBoilers) hH.1 (by decide) rfl dX2_numberOf_105 mlX2_215 okX2_setOfBoilers (kX2_setOfBoilers S I o x hH hI) (Nat.le_of_ble_eq_true rfl) (Nat.le_of_ble_eq_true rfl) (Nat.le_of_ble_eq_true rfl) (Nat.le_of_ble_eq_true rfl) ?_
      exact J_iret (ty := .int) hR dX2_numberOf_108 rfl rfl (Nat.le_of_ble_eq_true rfl) (Nat.le_of_ble_eq_true rfl) (jRes_i (by first | (simp only [fX2_numberOf, if_pos h1, if_neg h2, if_neg h3, if_neg h4, if_neg h5, if_neg h6, if_neg h7, if_pos h8]; done) | rfl | (simp only [fX2_numberOf, if_pos h1, if_neg h2, if_neg h3, if_neg h4, if_neg h5, if_neg h6, if_neg h7, if_pos h8]; rfl)) rfl)
    by_cases h9 : x = 7
    · skip
      refine J_tabIn (off := 87) (tgt := 109) dX2_numberOf_22 (by rw [h9]; decide) (by rw [h9]; decide) (by rw [h9]; rfl) (by decide) ?_
      refine J_aload_n dX2_numberOf_109 rfl rfl ?_
      refine J_cV0r (mc := mX2_allAccounts) hH.1 (by decide) rfl dX2_numberOf_110 mlX2_218 okX2_allAccounts (kX2_allAccounts S I o hH) (Nat.le_of_ble_eq_true rfl) (Nat.le_of_ble_eq_true rfl) (Nat.le_of_ble_eq_true rfl) (Nat.le_of_ble_eq_true rfl) ?_
      exact J_iret (ty := .int) hR dX2_numberOf_113 rfl rfl (Nat.le_of_ble_eq_true rfl) (Nat.le_of_ble_eq_true rfl) (jRes_i (by first | (simp only [fX2_numberOf, if_pos h1, if_neg h2, if_neg h3, if_neg h4, if_neg h5, if_neg h6, if_neg h7, if_neg h8, if_pos h9]; done) | rfl | (simp only [fX2_numberOf, if_pos h1, if_neg h2, if_neg h3, if_neg h4, if_neg h5, if_neg h6, if_neg h7, if_neg h8, if_pos h9]; rfl)) rfl)
    by_cases h10 : x = 8
    · skip
      refine J_tabIn (off := 92) (tgt := 114) dX2_numberOf_22 (by rw [h10]; decide) (by rw [h10]; decide) (by rw [h10]; rfl) (by decide) ?_
      refine J_aload_n dX2_numberOf_114 rfl rfl ?_
      refine J_iconst (3) dX2_numberOf_115 rfl ?_
      refine J_cV1r (mc := mX2_allOfInspectors) hH.1 (by decide) rfl dX2_numberOf_116 mlX2_221 okX2_allOfInspectors (kX2_allOfInspectors S I o 3 hH hI) (Nat.le_of_ble_eq_true rfl) (Nat.le_of_ble_eq_true rfl) (Nat.le_of_ble_eq_true rfl) (Nat.le_of_ble_eq_true rfl) ?_
      exact J_iret (ty := .int) hR dX2_numberOf_119 rfl rfl (Nat.le_of_ble_eq_true rfl) (Nat.le_of_ble_eq_true rfl) (jRes_i (by first | (simp only [fX2_numberOf, if_pos h1, if_neg h2, if_neg h3, if_neg h4, if_neg h5, if_neg h6, if_neg h7, if_neg h8, if_neg h9, if_pos h10]; done) | rfl | (simp only [fX2_numberOf, if_pos h1, if_neg h2, if_neg h3, if_neg h4, if_neg h5, if_neg h6, if_neg h7, if_neg h8, if_neg h9, if_pos h10]; rfl)) rfl)
    by_cases h11 : x = 9
    · skip
      refine J_tabIn (off := 98) (tgt := 120) dX2_numberOf_22 (by rw [h11]; decide) (by rw [h11]; decide) (by rw [h11]; rfl) (by decide) ?_
      refine J_aload_n dX2_numberOf_120 rfl rfl ?_
      refine J_iconst (4) dX2_numberOf_121 rfl ?_
      refine J_cV1r (mc := mX2_allOfInspectors) hH.1 (by decide) rfl dX2_numberOf_122 mlX2_221 okX2_allOfInspectors (kX2_allOfInspectors S I o 4 hH hI) (Nat.le_of_ble_eq_true rfl) (Nat.le_of_ble_eq_true rfl) (Nat.le_of_ble_eq_true rfl) (Nat.le_of_ble_eq_true rfl) ?_
      exact J_iret (ty := .int) hR dX2_numberOf_125 rfl rfl (Nat.le_of_ble_eq_true rfl) (Nat.le_of_ble_eq_true rfl) (jRes_i (by first | (simp only [fX2_numberOf, if_pos h1, if_neg h2, if_neg h3, if_neg h4, if_neg h5, if_neg h6, if_neg h7, if_neg h8, if_neg h9, if_neg h10, if_pos h11]; done) | rfl | (simp only [fX2_numberOf, if_pos h1, if_neg h2, if_neg h3, if_neg h4, if_neg h5, if_neg h6, if_neg h7, if_neg h8, if_neg h9, if_neg h10, if_pos h11]; rfl)) rfl)
    by_cases h12 : x = 10
    · skip
      refine J_tabIn (off := 104) (tgt := 126) dX2_numberOf_22 (by rw [h12]; decide) (by rw [h12]; decide) (by rw [h12]; rfl) (by decide) ?_
      refine J_aload_n dX2_numberOf_126 rfl rfl ?_
      refine J_getI dX2_numberOf_127 flX2_42 rfl hH.1 ?_
      exact J_iret (ty := .int) hR dX2_numberOf_130 rfl rfl (Nat.le_of_ble_eq_true rfl) (Nat.le_of_ble_eq_true rfl) (jRes_i (by first | (simp only [fX2_numberOf, if_pos h1, if_neg h2, if_neg h3, if_neg h4, if_neg h5, if_neg h6, if_neg h7, if_neg h8, if_neg h9, if_neg h10, if_neg h11, if_pos h12]; done) | rfl | (simp only [fX2_numberOf, if_pos h1, if_neg h2, if_neg h3, if_neg h4, if_neg h5, if_neg h6, if_neg h7, if_neg h8, if_neg h9, if_neg h10, if_neg h11, if_pos h12]; rfl)) rfl)
    by_cases h13 : x = 11
    · skip
      refine J_tabIn (off := 109) (tgt := 131) dX2_numberOf_22 (by rw [h13]; decide) (by rw [h13]; decide) (by rw [h13]; rfl) (by decide) ?_
      refine J_aload_n dX2_numberOf_131 rfl rfl ?_
      refine J_getI dX2_numberOf_132 flX2_45 rfl hH.1 ?_
      exact J_iret (ty := .int) hR dX2_numberOf_135 rfl rfl (Nat.le_of_ble_eq_true rfl) (Nat.le_of_ble_eq_true rfl) (jRes_i (by first | (simp only [fX2_numberOf, if_pos h1, if_neg h2, if_neg h3, if_neg h4, if_neg h5, if_neg h6, if_neg h7, if_neg h8, if_neg h9, if_neg h10, if_neg h11, if_neg h12, if_pos h13]; done) | rfl | (simp only [fX2_numberOf, if_pos h1, if_neg h2, if_neg h3, if_neg h4, if_neg h5, if_neg h6, if_neg h7, if_neg h8, if_neg h9, if_neg h10, if_neg h11, if_neg h12, if_pos h13]; rfl)) rfl)
    by_cases h14 : x = 12
    · skip
      refine J_tabIn (off := 81) (tgt := 103) dX2_numberOf_22 (by rw [h14]; decide) (by rw [h14]; decide) (by rw [h14]; rfl) (by decide) ?_
      refine J_aload_n dX2_numberOf_103 rfl rfl ?_
      refine J_iload_n dX2_numberOf_104 rfl ?_
      refine J_cV1r (mc := mX2_setOfBoilers) hH.1 (by decide) rfl dX2_numberOf_105 mlX2_215 okX2_setOfBoilers (kX2_setOfBoilers S I o x hH hI) (Nat.le_of_ble_eq_true rfl) (Nat.le_of_ble_eq_true rfl) (Nat.le_of_ble_eq_true rfl) (Nat.le_of_ble_eq_true rfl) ?_
      exact J_iret (ty := .int) hR dX2_numberOf_108 rfl rfl (Nat.le_of_ble_eq_true rfl) (Nat.le_of_ble_eq_true rfl) (jRes_i (by first | (simp only [fX2_numberOf, if_pos h1, if_neg h2, if_neg h3, if_neg h4, if_neg h5, if_neg h6, if_neg h7, if_neg h8, if_neg h9, if_neg h10, if_neg h11, if_neg h12, if_neg h13, if_pos h14]; done) | rfl | (simp only [fX2_numberOf, if_pos h1, if_neg h2, if_neg h3, if_neg h4, if_neg h5, if_neg h6, if_neg h7, if_neg h8, if_neg h9, if_neg h10, if_neg h11, if_neg h12, if_neg h13, if_pos h14]; rfl)) rfl)
    refine J_tabOut (tgt := 136) dX2_numberOf_22 (by have e0 := lv_neT h2 (a := 0) rfl; have e1 := lv_neT h3 (a := 1) rfl; have e2 := lv_neT h4 (a := 2) rfl; have e3 := lv_neT h5 (a := 3) rfl; have e4 := lv_neT h6 (a := 4) rfl; have e5 := lv_neT h7 (a := 5) rfl; have e6 := lv_neT h8 (a := 6) rfl; have e7 := lv_neT h9 (a := 7) rfl; have e8 := lv_neT h10 (a := 8) rfl; have e9 := lv_neT h11 (a := 9) rfl; have e10 := lv_neT h12 (a := 10) rfl; have e11 := lv_neT h13 (a := 11) rfl; have e12 := lv_neT h14 (a := 12) rfl; omega) (by decide) ?_
    refine J_ldc (-2000000001) dX2_numberOf_136 jw_262 ?_
    exact J_iret (ty := .int) hR dX2_numberOf_138 rfl rfl (Nat.le_of_ble_eq_true rfl) (Nat.le_of_ble_eq_true rfl) (jRes_i (by first | (simp only [fX2_numberOf, if_pos h1, if_neg h2, if_neg h3, if_neg h4, if_neg h5, if_neg h6, if_neg h7, if_neg h8, if_neg h9, if_neg h10, if_neg h11, if_neg h12, if_neg h13, if_neg h14]; done) | rfl | (simp only [fX2_numberOf, if_pos h1, if_neg h2, if_neg h3, if_neg h4, if_neg h5, if_neg h6, if_neg h7, if_neg h8, if_neg h9, if_neg h10, if_neg h11, if_neg h12, if_neg h13, if_neg h14]; rfl)) rfl)
  · skip
    refine J_iload_n dX2_numberOf_6 rfl ?_
    refine J_bipush (23) dX2_numberOf_7 rfl ?_
    refine J_icmp_gt (tgt := 21) dX2_numberOf_9 (by decide) (fun h15 => ?_) (fun h15 => ?_)
    · skip
      refine J_iload_n dX2_numberOf_21 rfl ?_
      by_cases h16 : x = 0
      · skip
        refine J_tabIn (off := 66) (tgt := 88) dX2_numberOf_22 (by rw [h16]; decide) (by rw [h16]; decide) (by rw [h16]; rfl) (by decide) ?_
        refine J_aload_n dX2_numberOf_88 rfl rfl ?_
        refine J_getI dX2_numberOf_89 flX2_32 rfl hH.1 ?_
        exact J_iret (ty := .int) hR dX2_numberOf_92 rfl rfl (Nat.le_of_ble_eq_true rfl) (Nat.le_of_ble_eq_true rfl) (jRes_i (by first | (simp only [fX2_numberOf, if_neg h1, if_pos h15, if_pos h16]; done) | rfl | (simp only [fX2_numberOf, if_neg h1, if_pos h15, if_pos h16]; rfl)) rfl)
      by_cases h17 : x = 1
      · skip
        refine J_tabIn (off := 71) (tgt := 93) dX2_numberOf_22 (by rw [h17]; decide) (by rw [h17]; decide) (by rw [h17]; rfl) (by decide) ?_
        refine J_aload_n dX2_numberOf_93 rfl rfl ?_
        refine J_getI dX2_numberOf_94 flX2_36 rfl hH.1 ?_
        exact J_iret (ty := .int) hR dX2_numberOf_97 rfl rfl (Nat.le_of_ble_eq_true rfl) (Nat.le_of_ble_eq_true rfl) (jRes_i (by first | (simp only [fX2_numberOf, if_neg h1, if_pos h15, if_neg h16, if_pos h17]; done) | rfl | (simp only [fX2_numberOf, if_neg h1, if_pos h15, if_neg h16, if_pos h17]; rfl)) rfl)
      by_cases h18 : x = 2
      · skip
        refine J_tabIn (off := 76) (tgt := 98) dX2_numberOf_22 (by rw [h18]; decide) (by rw [h18]; decide) (by rw [h18]; rfl) (by decide) ?_
        refine J_aload_n dX2_numberOf_98 rfl rfl ?_
        refine J_getI dX2_numberOf_99 flX2_39 rfl hH.1 ?_
        exact J_iret (ty := .int) hR dX2_numberOf_102 rfl rfl (Nat.le_of_ble_eq_true rfl) (Nat.le_of_ble_eq_true rfl) (jRes_i (by first | (simp only [fX2_numberOf, if_neg h1, if_pos h15, if_neg h16, if_neg h17, if_pos h18]; done) | rfl | (simp only [fX2_numberOf, if_neg h1, if_pos h15, if_neg h16, if_neg h17, if_pos h18]; rfl)) rfl)
      by_cases h19 : x = 3
      · skip
        refine J_tabIn (off := 81) (tgt := 103) dX2_numberOf_22 (by rw [h19]; decide) (by rw [h19]; decide) (by rw [h19]; rfl) (by decide) ?_
        refine J_aload_n dX2_numberOf_103 rfl rfl ?_
        refine J_iload_n dX2_numberOf_104 rfl ?_
        refine J_cV1r (mc := mX2_setOfBoilers) hH.1 (by decide) rfl dX2_numberOf_105 mlX2_215 okX2_setOfBoilers (kX2_setOfBoilers S I o x hH hI) (Nat.le_of_ble_eq_true rfl) (Nat.le_of_ble_eq_true rfl) (Nat.le_of_ble_eq_true rfl) (Nat.le_of_ble_eq_true rfl) ?_
        exact J_iret (ty := .int) hR dX2_numberOf_108 rfl rfl (Nat.le_of_ble_eq_true rfl) (Nat.le_of_ble_eq_true rfl) (jRes_i (by first | (simp only [fX2_numberOf, if_neg h1, if_pos h15, if_neg h16, if_neg h17, if_neg h18, if_pos h19]; done) | rfl | (simp only [fX2_numberOf, if_neg h1, if_pos h15, if_neg h16, if_neg h17, if_neg h18, if_pos h19]; rfl)) rfl)
      by_cases h20 : x = 4
      · skip
        refine J_tabIn (off := 81) (tgt := 103) dX2_numberOf_22 (by rw [h20]; decide) (by rw [h20]; decide) (by rw [h20]; rfl) (by decide) ?_
        refine J_aload_n dX2_numberOf_103 rfl rfl ?_
        refine J_iload_n dX2_numberOf_104 rfl ?_
        refine J_cV1r (mc := mX2_setOfBoilers) hH.1 (by decide) rfl dX2_numberOf_105 mlX2_215 okX2_setOfBoilers (kX2_setOfBoilers S I o x hH hI) (Nat.le_of_ble_eq_true rfl) (Nat.le_of_ble_eq_true rfl) (Nat.le_of_ble_eq_true rfl) (Nat.le_of_ble_eq_true rfl) ?_
        exact J_iret (ty := .int) hR dX2_numberOf_108 rfl rfl (Nat.le_of_ble_eq_true rfl) (Nat.le_of_ble_eq_true rfl) (jRes_i (by first | (simp only [fX2_numberOf, if_neg h1, if_pos h15, if_neg h16, if_neg h17, if_neg h18, if_neg h19, if_pos h20]; done) | rfl | (simp only [fX2_numberOf, if_neg h1, if_pos h15, if_neg h16, if_neg h17, if_neg h18, if_neg h19, if_pos h20]; rfl)) rfl)
      by_cases h21 : x = 5
      · skip
        refine J_tabIn (off := 81) (tgt := 103) dX2_numberOf_22 (by rw [h21]; decide) (by rw [h21]; decide) (by rw [h21]; rfl) (by decide) ?_
        refine J_aload_n dX2_numberOf_103 rfl rfl ?_
        refine J_iload_n dX2_numberOf_104 rfl ?_
        refine J_cV1r (mc := mX2_setOfBoilers) hH.1 (by decide) rfl dX2_numberOf_105 mlX2_215 okX2_setOfBoilers (kX2_setOfBoilers S I o x hH hI) (Nat.le_of_ble_eq_true rfl) (Nat.le_of_ble_eq_true rfl) (Nat.le_of_ble_eq_true rfl) (Nat.le_of_ble_eq_true rfl) ?_
        exact J_iret (ty := .int) hR dX2_numberOf_108 rfl rfl (Nat.le_of_ble_eq_true rfl) (Nat.le_of_ble_eq_true rfl) (jRes_i (by first | (simp only [fX2_numberOf, if_neg h1, if_pos h15, if_neg h16, if_neg h17, if_neg h18, if_neg h19, if_neg h20, if_pos h21]; done) | rfl | (simp only [fX2_numberOf, if_neg h1, if_pos h15, if_neg h16, if_neg h17, if_neg h18, if_neg h19, if_neg h20, if_pos h21]; rfl)) rfl)
      by_cases h22 : x = 6
      · skip
        refine J_tabIn (off := 81) (tgt := 103) dX2_numberOf_22 (by rw [h22]; decide) (by rw [h22]; decide) (by rw [h22]; rfl) (by decide) ?_
        refine J_aload_n dX2_numberOf_103 rfl rfl ?_
        refine J_iload_n dX2_numberOf_104 rfl ?_
        refine J_cV1r (mc := mX2_setOfBoilers) hH.1 (by decide) rfl dX2_numberOf_105 mlX2_215 okX2_setOfBoilers (kX2_setOfBoilers S I o x hH hI) (Nat.le_of_ble_eq_true rfl) (Nat.le_of_ble_eq_true rfl) (Nat.le_of_ble_eq_true rfl) (Nat.le_of_ble_eq_true rfl) ?_
        exact J_iret (ty := .int) hR dX2_numberOf_108 rfl rfl (Nat.le_of_ble_eq_true rfl) (Nat.le_of_ble_eq_true rfl) (jRes_i (by first | (simp only [fX2_numberOf, if_neg h1, if_pos h15, if_neg h16, if_neg h17, if_neg h18, if_neg h19, if_neg h20, if_neg h21, if_pos h22]; done) | rfl | (simp only [fX2_numberOf, if_neg h1, if_pos h15, if_neg h16, if_neg h17, if_neg h18, if_neg h19, if_neg h20, if_neg h21, if_pos h22]; rfl)) rfl)
      by_cases h23 : x = 7
      · skip
        refine J_tabIn (off := 87) (tgt := 109) dX2_numberOf_22 (by rw [h23]; decide) (by rw [h23]; decide) (by rw [h23]; rfl) (by decide) ?_
        refine J_aload_n dX2_numberOf_109 rfl rfl ?_
        refine J_cV0r (mc := mX2_allAccounts) hH.1 (by decide) rfl dX2_numberOf_110 mlX2_218 okX2_allAccounts (kX2_allAccounts S I o hH) (Nat.le_of_ble_eq_true rfl) (Nat.le_of_ble_eq_true rfl) (Nat.le_of_ble_eq_true rfl) (Nat.le_of_ble_eq_true rfl) ?_
        exact J_iret (ty := .int) hR dX2_numberOf_113 rfl rfl (Nat.le_of_ble_eq_true rfl) (Nat.le_of_ble_eq_true rfl) (jRes_i (by first | (simp only [fX2_numberOf, if_neg h1, if_pos h15, if_neg h16, if_neg h17, if_neg h18, if_neg h19, if_neg h20, if_neg h21, if_neg h22, if_pos h23]; done) | rfl | (simp only [fX2_numberOf, if_neg h1, if_pos h15, if_neg h16, if_neg h17, if_neg h18, if_neg h19, if_neg h20, if_neg h21, if_neg h22, if_pos h23]; rfl)) rfl)
      by_cases h24 : x = 8
      · skip
        refine J_tabIn (off := 92) (tgt := 114) dX2_numberOf_22 (by rw [h24]; decide) (by rw [h24]; decide) (by rw [h24]; rfl) (by decide) ?_
        refine J_aload_n dX2_numberOf_114 rfl rfl ?_
        refine J_iconst (3) dX2_numberOf_115 rfl ?_
        refine J_cV1r (mc := mX2_allOfInspectors) hH.1 (by decide) rfl dX2_numberOf_116 mlX2_221 okX2_allOfInspectors (kX2_allOfInspectors S I o 3 hH hI) (Nat.le_of_ble_eq_true rfl) (Nat.le_of_ble_eq_true rfl) (Nat.le_of_ble_eq_true rfl) (Nat.le_of_ble_eq_true rfl) ?_
        exact J_iret (ty := .int) hR dX2_numberOf_119 rfl rfl (Nat.le_of_ble_eq_true rfl) (Nat.le_of_ble_eq_true rfl) (jRes_i (by first | (simp only [fX2_numberOf, if_neg h1, if_pos h15, if_neg h16, if_neg h17, if_neg h18, if_neg h19, if_neg h20, if_neg h21, if_neg h22, if_neg h23, if_pos h24]; done) | rfl | (simp only [fX2_numberOf, if_neg h1, if_pos h15, if_neg h16, if_neg h17, if_neg h18, if_neg h19, if_neg h20, if_neg h21, if_neg h22, if_neg h23, if_pos h24]; rfl)) rfl)
      by_cases h25 : x = 9
      · skip
        refine J_tabIn (off := 98) (tgt := 120) dX2_numberOf_22 (by rw [h25]; decide) (by rw [h25]; decide) (by rw [h25]; rfl) (by decide) ?_
        refine J_aload_n dX2_numberOf_120 rfl rfl ?_
        refine J_iconst (4) dX2_numberOf_121 rfl ?_
        refine J_cV1r (mc := mX2_allOfInspectors) hH.1 (by decide) rfl dX2_numberOf_122 mlX2_221 okX2_allOfInspectors (kX2_allOfInspectors S I o 4 hH hI) (Nat.le_of_ble_eq_true rfl) (Nat.le_of_ble_eq_true rfl) (Nat.le_of_ble_eq_true rfl) (Nat.le_of_ble_eq_true rfl) ?_
        exact J_iret (ty := .int) hR dX2_numberOf_125 rfl rfl (Nat.le_of_ble_eq_true rfl) (Nat.le_of_ble_eq_true rfl) (jRes_i (by first | (simp only [fX2_numberOf, if_neg h1, if_pos h15, if_neg h16, if_neg h17, if_neg h18, if_neg h19, if_neg h20, if_neg h21, if_neg h22, if_neg h23, if_neg h24, if_pos h25]; done) | rfl | (simp only [fX2_numberOf, if_neg h1, if_pos h15, if_neg h16, if_neg h17, if_neg h18, if_neg h19, if_neg h20, if_neg h21, if_neg h22, if_neg h23, if_neg h24, if_pos h25]; rfl)) rfl)
      by_cases h26 : x = 10
      · skip
        refine J_tabIn (off := 104) (tgt := 126) dX2_numberOf_22 (by rw [h26]; decide) (by rw [h26]; decide) (by rw [h26]; rfl) (by decide) ?_
        refine J_aload_n dX2_numberOf_126 rfl rfl ?_
        refine J_getI dX2_numberOf_127 flX2_42 rfl hH.1 ?_
        exact J_iret (ty := .int) hR dX2_numberOf_130 rfl rfl (Nat.le_of_ble_eq_true rfl) (Nat.le_of_ble_eq_true rfl) (jRes_i (by first | (simp only [fX2_numberOf, if_neg h1, if_pos h15, if_neg h16, if_neg h17, if_neg h18, if_neg h19, if_neg h20, if_neg h21, if_neg h22, if_neg h23, if_neg h24, if_neg h25, if_pos h26]; done) | rfl | (simp only [fX2_numberOf, if_neg h1, if_pos h15, if_neg h16, if_neg h17, if_neg h18, if_neg h19, if_neg h20, if_neg h21, if_neg h22, if_neg h23, if_neg h24, if_neg h25, if_pos h26]; rfl)) rfl)
      by_cases h27 : x = 11
      · skip
        refine J_tabIn (off := 109) (tgt := 131) dX2_numberOf_22 (by rw [h27]; decide) (by rw [h27]; decide) (by rw [h27]; rfl) (by decide) ?_
        refine J_aload_n dX2_numberOf_131 rfl rfl ?_
        refine J_getI dX2_numberOf_132 flX2_45 rfl hH.1 ?_
        exact J_iret (ty := .int) hR dX2_numberOf_135 rfl rfl (Nat.le_of_ble_eq_true rfl) (Nat.le_of_ble_eq_true rfl) (jRes_i (by first | (simp only [fX2_numberOf, if_neg h1, if_pos h15, if_neg h16, if_neg h17, if_neg h18, if_neg h19, if_neg h20, if_neg h21, if_neg h22, if_neg h23, if_neg h24, if_neg h25, if_neg h26, if_pos h27]; done) | rfl | (simp only [fX2_numberOf, if_neg h1, if_pos h15, if_neg h16, if_neg h17, if_neg h18, if_neg h19, if_neg h20, if_neg h21, if_neg h22, if_neg h23, if_neg h24, if_neg h25, if_neg h26, if_pos h27]; rfl)) rfl)
      by_cases h28 : x = 12
      · skip
        refine J_tabIn (off := 81) (tgt := 103) dX2_numberOf_22 (by rw [h28]; decide) (by rw [h28]; decide) (by rw [h28]; rfl) (by decide) ?_
        refine J_aload_n dX2_numberOf_103 rfl rfl ?_
        refine J_iload_n dX2_numberOf_104 rfl ?_
        refine J_cV1r (mc := mX2_setOfBoilers) hH.1 (by decide) rfl dX2_numberOf_105 mlX2_215 okX2_setOfBoilers (kX2_setOfBoilers S I o x hH hI) (Nat.le_of_ble_eq_true rfl) (Nat.le_of_ble_eq_true rfl) (Nat.le_of_ble_eq_true rfl) (Nat.le_of_ble_eq_true rfl) ?_
        exact J_iret (ty := .int) hR dX2_numberOf_108 rfl rfl (Nat.le_of_ble_eq_true rfl) (Nat.le_of_ble_eq_true rfl) (jRes_i (by first | (simp only [fX2_numberOf, if_neg h1, if_pos h15, if_neg h16, if_neg h17, if_neg h18, if_neg h19, if_neg h20, if_neg h21, if_neg h22, if_neg h23, if_neg h24, if_neg h25, if_neg h26, if_neg h27, if_pos h28]; done) | rfl | (simp only [fX2_numberOf, if_neg h1, if_pos h15, if_neg h16, if_neg h17, if_neg h18, if_neg h19, if_neg h20, if_neg h21, if_neg h22, if_neg h23, if_neg h24, if_neg h25, if_neg h26, if_neg h27, if_pos h28]; rfl)) rfl)
      refine J_tabOut (tgt := 136) dX2_numberOf_22 (by have e0 := lv_neT h16 (a := 0) rfl; have e1 := lv_neT h17 (a := 1) rfl; have e2 := lv_neT h18 (a := 2) rfl; have e3 := lv_neT h19 (a := 3) rfl; have e4 := lv_neT h20 (a := 4) rfl; have e5 := lv_neT h21 (a := 5) rfl; have e6 := lv_neT h22 (a := 6) rfl; have e7 := lv_neT h23 (a := 7) rfl; have e8 := lv_neT h24 (a := 8) rfl; have e9 := lv_neT h25 (a := 9) rfl; have e10 := lv_neT h26 (a := 10) rfl; have e11 := lv_neT h27 (a := 11) rfl; have e12 := lv_neT h28 (a := 12) rfl; omega) (by decide) ?_
      refine J_ldc (-2000000001) dX2_numberOf_136 jw_262 ?_
      exact J_iret (ty := .int) hR dX2_numberOf_138 rfl rfl (Nat.le_of_ble_eq_true rfl) (Nat.le_of_ble_eq_true rfl) (jRes_i (by first | (simp only [fX2_numberOf, if_neg h1, if_pos h15, if_neg h16, if_neg h17, if_neg h18, if_neg h19, if_neg h20, if_neg h21, if_neg h22, if_neg h23, if_neg h24, if_neg h25, if_neg h26, if_neg h27, if_neg h28]; done) | rfl | (simp only [fX2_numberOf, if_neg h1, if_pos h15, if_neg h16, if_neg h17, if_neg h18, if_neg h19, if_neg h20, if_neg h21, if_neg h22, if_neg h23, if_neg h24, if_neg h25, if_neg h26, if_neg h27, if_neg h28]; rfl)) rfl)
    · skip
      refine J_aload_n dX2_numberOf_12 rfl rfl ?_
      refine J_iload_n dX2_numberOf_13 rfl ?_
      refine J_bipush (20) dX2_numberOf_14 rfl ?_
      refine J_isub dX2_numberOf_16 ?_
      refine J_cV1r (mc := mX2_settingAt) hH.1 (by decide) rfl dX2_numberOf_17 mlX2_118 okX2_settingAt (kX2_settingAt S I o (x - 20) hH) (Nat.le_of_ble_eq_true rfl) (Nat.le_of_ble_eq_true rfl) (Nat.le_of_ble_eq_true rfl) (Nat.le_of_ble_eq_true rfl) ?_
      exact J_iret (ty := .int) hR dX2_numberOf_20 rfl rfl (Nat.le_of_ble_eq_true rfl) (Nat.le_of_ble_eq_true rfl) (jRes_i (by first | (simp only [fX2_numberOf, if_neg h1, if_neg h15]; done) | rfl | (simp only [fX2_numberOf, if_neg h1, if_neg h15]; rfl)) rfl)
def fX2_obey (I : jI) (o : Nat) (x : Int32) (y : Int32) (z : Int32) : Int32 × jI :=
  if x = 98 then
    ((fX2_addBoiler I o y).1, (fX2_addBoiler I o y).2)
  else
    if x = 102 then
      ((fX2_light I o y).1, (fX2_light I o y).2)
    else
      if x = 105 then
        ((fX2_examine I o y z).1, (fX2_examine I o y z).2)
      else
        if x = 111 then
          ((fX2_putOut I o y).1, (fX2_putOut I o y).2)
        else
          if x = 114 then
            ((fX2_sendToRepair I o y).1, (fX2_sendToRepair I o y).2)
          else
            if x = 119 then
              ((fX2_letWeeksPass I o y).1, (fX2_letWeeksPass I o y).2)
            else
              ((-2000000001), I)
set_option maxRecDepth 100000 in
set_option maxHeartbeats 4000000 in
theorem kX2_obey (S : jX) (I : jI) (o : Nat) (x : Int32) (y : Int32) (z : Int32) (hH : jHouse S o) (hI : jHInv I o) : jM (4, 0, 0) mX2_obey [.ref o, .int x, .int y, .int z] S I (jRes (some (.int (fX2_obey I o x y z).1)) S (fX2_obey I o x y z).2) := by
  refine jM.of (ls := [.ref o, .int x, .int y, .int z]) (by decide) (Nat.le_of_ble_eq_true rfl) (by intro v hv; simp only [List.mem_cons, List.not_mem_nil, or_false] at hv; rcases hv with rfl | rfl | rfl | rfl <;> rfl) rfl (fun G hR => ?_)
  refine J_iload_n dX2_obey_0 rfl ?_
  by_cases h1 : x = 98
  · skip
    refine J_look (off := 59) (tgt := 60) dX2_obey_1 (by decide) (by rw [h1]; rfl) (by decide) ?_
    refine J_aload_n dX2_obey_60 rfl rfl ?_
    refine J_iload_n dX2_obey_61 rfl ?_
    refine J_cV1r (mc := mX2_addBoiler) hH.1 (by decide) rfl dX2_obey_62 mlX2_172 okX2_addBoiler (kX2_addBoiler S I o y hH) (Nat.le_of_ble_eq_true rfl) (Nat.le_of_ble_eq_true rfl) (Nat.le_of_ble_eq_true rfl) (Nat.le_of_ble_eq_true rfl) ?_
    exact J_iret (ty := .int) hR dX2_obey_65 rfl rfl (Nat.le_of_ble_eq_true rfl) (Nat.le_of_ble_eq_true rfl) (jRes_f (by first | (simp only [fX2_obey, if_pos h1]; done) | rfl | (simp only [fX2_obey, if_pos h1]; rfl)))
  by_cases h2 : x = 102
  · skip
    refine J_look (off := 72) (tgt := 73) dX2_obey_1 (by decide) (by rw [h2]; rfl) (by decide) ?_
    refine J_aload_n dX2_obey_73 rfl rfl ?_
    refine J_iload_n dX2_obey_74 rfl ?_
    refine J_cV1r (mc := mX2_light) hH.1 (by decide) rfl dX2_obey_75 mlX2_179 okX2_light (kX2_light S I o y hH) (Nat.le_of_ble_eq_true rfl) (Nat.le_of_ble_eq_true rfl) (Nat.le_of_ble_eq_true rfl) (Nat.le_of_ble_eq_true rfl) ?_
    exact J_iret (ty := .int) hR dX2_obey_78 rfl rfl (Nat.le_of_ble_eq_true rfl) (Nat.le_of_ble_eq_true rfl) (jRes_f (by first | (simp only [fX2_obey, if_neg h1, if_pos h2]; done) | rfl | (simp only [fX2_obey, if_neg h1, if_pos h2]; rfl)))
  by_cases h3 : x = 105
  · skip
    refine J_look (off := 65) (tgt := 66) dX2_obey_1 (by decide) (by rw [h3]; rfl) (by decide) ?_
    refine J_aload_n dX2_obey_66 rfl rfl ?_
    refine J_iload_n dX2_obey_67 rfl ?_
    refine J_iload_n dX2_obey_68 rfl ?_
    refine J_cV2r (mc := mX2_examine) hH.1 (by decide) rfl dX2_obey_69 mlX2_175 okX2_examine (kX2_examine S I o y z hH) (Nat.le_of_ble_eq_true rfl) (Nat.le_of_ble_eq_true rfl) (Nat.le_of_ble_eq_true rfl) (Nat.le_of_ble_eq_true rfl) ?_
    exact J_iret (ty := .int) hR dX2_obey_72 rfl rfl (Nat.le_of_ble_eq_true rfl) (Nat.le_of_ble_eq_true rfl) (jRes_f (by first | (simp only [fX2_obey, if_neg h1, if_neg h2, if_pos h3]; done) | rfl | (simp only [fX2_obey, if_neg h1, if_neg h2, if_pos h3]; rfl)))
  by_cases h4 : x = 111
  · skip
    refine J_look (off := 78) (tgt := 79) dX2_obey_1 (by decide) (by rw [h4]; rfl) (by decide) ?_
    refine J_aload_n dX2_obey_79 rfl rfl ?_
    refine J_iload_n dX2_obey_80 rfl ?_
    refine J_cV1r (mc := mX2_putOut) hH.1 (by decide) rfl dX2_obey_81 mlX2_182 okX2_putOut (kX2_putOut S I o y hH) (Nat.le_of_ble_eq_true rfl) (Nat.le_of_ble_eq_true rfl) (Nat.le_of_ble_eq_true rfl) (Nat.le_of_ble_eq_true rfl) ?_
    exact J_iret (ty := .int) hR dX2_obey_84 rfl rfl (Nat.le_of_ble_eq_true rfl) (Nat.le_of_ble_eq_true rfl) (jRes_f (by first | (simp only [fX2_obey, if_neg h1, if_neg h2, if_neg h3, if_pos h4]; done) | rfl | (simp only [fX2_obey, if_neg h1, if_neg h2, if_neg h3, if_pos h4]; rfl)))
  by_cases h5 : x = 114
  · skip
    refine J_look (off := 84) (tgt := 85) dX2_obey_1 (by decide) (by rw [h5]; rfl) (by decide) ?_
    refine J_aload_n dX2_obey_85 rfl rfl ?_
    refine J_iload_n dX2_obey_86 rfl ?_
    refine J_cV1r (mc := mX2_sendToRepair) hH.1 (by decide) rfl dX2_obey_87 mlX2_185 okX2_sendToRepair (kX2_sendToRepair S I o y hH) (Nat.le_of_ble_eq_true rfl) (Nat.le_of_ble_eq_true rfl) (Nat.le_of_ble_eq_true rfl) (Nat.le_of_ble_eq_true rfl) ?_
    exact J_iret (ty := .int) hR dX2_obey_90 rfl rfl (Nat.le_of_ble_eq_true rfl) (Nat.le_of_ble_eq_true rfl) (jRes_f (by first | (simp only [fX2_obey, if_neg h1, if_neg h2, if_neg h3, if_neg h4, if_pos h5]; done) | rfl | (simp only [fX2_obey, if_neg h1, if_neg h2, if_neg h3, if_neg h4, if_pos h5]; rfl)))
  by_cases h6 : x = 119
  · skip
    refine J_look (off := 90) (tgt := 91) dX2_obey_1 (by decide) (by rw [h6]; rfl) (by decide) ?_
    refine J_aload_n dX2_obey_91 rfl rfl ?_
    refine J_iload_n dX2_obey_92 rfl ?_
    refine J_cV1r (mc := mX2_letWeeksPass) hH.1 (by decide) rfl dX2_obey_93 mlX2_188 okX2_letWeeksPass (kX2_letWeeksPass S I o y hH hI) (Nat.le_of_ble_eq_true rfl) (Nat.le_of_ble_eq_true rfl) (Nat.le_of_ble_eq_true rfl) (Nat.le_of_ble_eq_true rfl) ?_
    exact J_iret (ty := .int) hR dX2_obey_96 rfl rfl (Nat.le_of_ble_eq_true rfl) (Nat.le_of_ble_eq_true rfl) (jRes_f (by first | (simp only [fX2_obey, if_neg h1, if_neg h2, if_neg h3, if_neg h4, if_neg h5, if_pos h6]; done) | rfl | (simp only [fX2_obey, if_neg h1, if_neg h2, if_neg h3, if_neg h4, if_neg h5, if_pos h6]; rfl)))
  refine J_look (off := 96) (tgt := 97) dX2_obey_1 (by decide) (by show Op.lookupswitch.offset [(98, 59), (102, 72), (105, 65), (111, 78), (114, 84), (119, 90)] (96) (x).toInt = 96; rw [lv_osw h1 (a := 98) rfl, lv_osw h2 (a := 102) rfl, lv_osw h3 (a := 105) rfl, lv_osw h4 (a := 111) rfl, lv_osw h5 (a := 114) rfl, lv_osw h6 (a := 119) rfl]; rfl) (by decide) ?_
  refine J_ldc (-2000000001) dX2_obey_97 jw_262 ?_
  exact J_iret (ty := .int) hR dX2_obey_99 rfl rfl (Nat.le_of_ble_eq_true rfl) (Nat.le_of_ble_eq_true rfl) (jRes_f (by first | (simp only [fX2_obey, if_neg h1, if_neg h2, if_neg h3, if_neg h4, if_neg h5, if_neg h6]; done) | rfl | (simp only [fX2_obey, if_neg h1, if_neg h2, if_neg h3, if_neg h4, if_neg h5, if_neg h6]; rfl)))
