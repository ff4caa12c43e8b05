/-- between lo and hi nothing has changed -/
def jKeep (lo hi : Nat) (S S' : jX) (I I' : jI) : Prop := ∀ a, lo ≤ a → a < hi → S'.2.1 a = S.2.1 a ∧ S'.2.2 a = S.2.2 a ∧ I' a = I a
theorem jExt.kp {lo o : Nat} {S S' : jX} {I I' : jI} (h : jExt o S S' I I') : jKeep lo o S S' I I' := fun a _ h2 => h a h2
theorem jKeep.tr {lo hi : Nat} {S1 S2 S3 : jX} {I1 I2 I3 : jI} (h1 : jKeep lo hi S1 S2 I1 I2) (h2 : jKeep lo hi S2 S3 I2 I3) : jKeep lo hi S1 S3 I1 I3 := fun a ha hb => ⟨(h2 a ha hb).1.trans (h1 a ha hb).1, (h2 a ha hb).2.1.trans (h1 a ha hb).2.1, (h2 a ha hb).2.2.trans (h1 a ha hb).2.2⟩
theorem jKeep.setR {lo hi b j q : Nat} {S : jX} {I : jI} (h : b < lo) : jKeep lo hi S (jsetR S b j q) I I := fun a ha _ => ⟨rfl, jrefs_set (by omega), rfl⟩
theorem jKeep.le {lo hi lo' hi' : Nat} {S S' : jX} {I I' : jI} (h : jKeep lo hi S S' I I') (h1 : lo ≤ lo') (h2 : hi' ≤ hi) : jKeep lo' hi' S S' I I' := fun a ha hb => h a (by omega) (by omega)
theorem jKd.kp {lo hi a t n : Nat} {S S' : jX} {I I' : jI} (h : jKd S a t n) (he : jKeep lo hi S S' I I') (h1 : lo ≤ a) (h2 : a < hi) (hN : hi ≤ S'.1) : jKd S' a t n := ⟨by omega, by rw [(he a h1 h2).1]; exact h.2⟩
theorem jHouse.kp {lo hi o : Nat} {S S' : jX} {I I' : jI} (h : jHouse S o) (he : jKeep lo hi S S' I I') (h1 : lo ≤ o) (h2 : o + 19 ≤ hi) (hN : hi ≤ S'.1) : jHouse S' o := by
  refine ⟨h.1.kp he (by omega) (by omega) hN, ⟨?_, ?_, ?_, ?_⟩, ⟨h.a0.kp he (by omega) (by omega) hN, h.a1.kp he (by omega) (by omega) hN, h.a2.kp he (by omega) (by omega) hN, h.a3.kp he (by omega) (by omega) hN⟩, fun i hi => ⟨(h.b hi).1.kp he (by omega) (by omega) hN, ?_⟩, fun i hi => ⟨(h.c hi).1.kp he (by omega) (by omega) hN, ?_⟩⟩
  · rw [(he o (by omega) (by omega)).2.1]; exact h.r0
  · rw [(he o (by omega) (by omega)).2.1]; exact h.r1
  · rw [(he o (by omega) (by omega)).2.1]; exact h.r2
  · rw [(he o (by omega) (by omega)).2.1]; exact h.r3
  · rw [(he (o + 1) (by omega) (by omega)).2.1]; exact (h.b hi).2
  · rw [(he (o + 2) (by omega) (by omega)).2.1]; exact (h.c hi).2
/-- the ints of a new House -/
def jZ (I : jI) (o : Nat) : Prop := (∀ a, o ≤ a → a < o + 19 → a ≠ o + 3 → I a = fun _ => 0) ∧ (I (o + 3) 0 = 120 ∧ I (o + 3) 1 = 90 ∧ I (o + 3) 2 = 8 ∧ I (o + 3) 3 = 15)
theorem jZ.kp {lo hi o : Nat} {S S' : jX} {I I' : jI} (h : jZ I o) (he : jKeep lo hi S S' I I') (h1 : lo ≤ o) (h2 : o + 19 ≤ hi) : jZ I' o := by
  refine ⟨fun a q1 q2 q3 => by rw [(he a (by omega) (by omega)).2.2]; exact h.1 a q1 q2 q3, ?_⟩
  rw [(he (o + 3) (by omega) (by omega)).2.2]
  exact h.2
theorem jH0.jz {o : Nat} {S S' : jX} {I I' : jI} (h : jH0 o S S' I I') (h0 : I o = fun _ => 0) : jZ I' o := by
  refine ⟨fun a q1 q2 q3 => ?_, h.2.2.2.2.1⟩
  by_cases e : a = o
  · subst e; rw [h.2.2.2.1]; exact h0
  · exact h.2.2.2.2.2 a (by omega) q2 q3
/-- History's loop -/
def LH (o i : Nat) (S S' : jX) (I I' : jI) : Prop := S'.1 = o + 2 + 19 * i ∧ jKd S' o 1 0 ∧ S'.2.2 o 0 = some (o + 1) ∧ jKd S' (o + 1) 12 4 ∧ (∀ j, j < i → jHouse S' (o + 2 + 19 * j) ∧ S'.2.2 (o + 1) j = some (o + 2 + 19 * j)) ∧ jExt o S S' I I' ∧ I' o = I o ∧ I' (o + 1) = (fun _ => 0) ∧ ∀ j, j < i → jZ I' (o + 2 + 19 * j)
theorem lX1_step {S S' S2 : jX} {I I' I2 : jI} {o i : Nat} (h : LH o i S S' I I') (hi : i < 4) (h0 : jH0 S'.1 (jnS S' 2 0) S2 (jnI S' I') I2) : LH o (i + 1) S (jsetR S2 (o + 1) i S'.1) I I2 := by
  obtain ⟨z1, z2, z3, z4, z5, z6, z7, z8, z9⟩ := h
  obtain ⟨y1, y2, y3, y4, y5, y6⟩ := id h0
  have hx : jExt S'.1 S' S2 I' I2 := (jExt.new (Nat.le_refl _)).tr y3
  have hN : S'.1 ≤ S2.1 := by omega
  have hz : jZ I2 S'.1 := h0.jz (by funext b; simp [jnI])
  have hk : jKeep (o + 2) S'.1 S' (jsetR S2 (o + 1) i S'.1) I' I2 := hx.kp.tr (jKeep.setR (by omega))
  have hk2 : jKeep (o + 2) S2.1 S2 (jsetR S2 (o + 1) i S'.1) I2 I2 := jKeep.setR (by omega)
  refine ⟨by show S2.1 = _; omega, (show jKd S2 o 1 0 from z2.ext hx (by omega) hN), ?_, (show jKd S2 (o + 1) 12 4 from z4.ext hx (by omega) hN), ?_, ?_, ?_, ?_, ?_⟩
  · rw [jrefs_set (by omega), (hx o (by omega)).2.1]; exact z3
  · intro j hj
    by_cases hji : j = i
    · subst hji
      refine ⟨?_, ?_⟩
      · rw [← z1]; exact y2.kp hk2 (by omega) (by omega) (Nat.le_refl _)
      · rw [← z1]; simp [jsetR]
    · refine ⟨(z5 j (by omega)).1.kp hk (by omega) (by omega) (by show S'.1 ≤ S2.1; exact hN), ?_⟩
      have hne : ¬ (o + 1 = o + 1 ∧ j = i) := fun q => hji q.2
      show (if o + 1 = o + 1 ∧ j = i then _ else _) = _
      rw [if_neg hne, (hx (o + 1) (by omega)).2.1]
      exact (z5 j (by omega)).2
  · exact z6.tr ((hx.le (by omega)).tr (jExt.setR (by omega)))
  · rw [(hx o (by omega)).2.2]; exact z7
  · rw [(hx (o + 1) (by omega)).2.2]; exact z8
  · intro j hj
    by_cases hji : j = i
    · subst hji; rw [← z1]; exact hz
    · exact (z9 j (by omega)).kp (hx.kp (lo := 0)) (by omega) (by omega)
set_option maxRecDepth 100000 in
set_option maxHeartbeats 4000000 in
theorem lX1 {S : jX} {I : jI} {o : Nat} {G : jG} (hnx : ∀ S' I', LH o 4 S S' I I' → J G (3, 77, 696) mX1_init 42 [.ref o, .int 4] [] S' I' 77 696) : ∀ (c i : Nat) (S' : jX) (I' : jI), i + c = 4 → LH o i S S' I I' → J G (3, 77, 696) mX1_init 14 [.ref o, .int (nI i)] [] S' I' (1 + 19 * i) (4 + 173 * i) := by
  intro c
  induction c with
  | zero =>
    intro i S' I' hi hL
    have hi2 : i = 4 := by omega
    subst hi2
    obtain ⟨z1, z2, z3, z4, z5⟩ := id hL
    refine J_iload_n dX1_init_14 rfl ?_
    refine J_aload_n dX1_init_15 rfl rfl ?_
    refine J_getR dX1_init_16 flX1_11 rfl z2 z3 ?_
    refine J_alen (x := 4) dX1_init_19 z4 ⟨by decide, by decide⟩ rfl ?_
    refine J_icmp_ge (tgt := 42) dX1_init_20 (by decide) (fun _ => ?_) (fun h1 => absurd (nI_le (a := 4) (b := 4) (by omega) (by omega)) h1)
    exact hnx S' I' hL
  | succ c ih =>
    intro i S' I' hi hL
    obtain ⟨z1, z2, z3, z4, z5⟩ := id hL
    refine J_iload_n dX1_init_14 rfl ?_
    refine J_aload_n dX1_init_15 rfl rfl ?_
    refine J_getR dX1_init_16 flX1_11 rfl z2 z3 ?_
    refine J_alen (x := 4) dX1_init_19 z4 ⟨by decide, by decide⟩ rfl ?_
    refine J_icmp_ge (tgt := 42) dX1_init_20 (by decide) (fun h1 => absurd h1 (nI_ge (a := i) (b := 4) (by omega) (by decide))) (fun _ => ?_)
    refine J_aload_n dX1_init_23 rfl rfl ?_
    refine J_getR dX1_init_24 flX1_11 rfl z2 z3 ?_
    refine J_iload_n dX1_init_27 rfl ?_
    refine J_new (ci := 2) dX1_init_28 (by decide) jw_146 jw_20 jw_2 (by show 1 + 19 * i + 1 ≤ 77; omega) (by show 4 + 173 * i + 9 ≤ 696; omega) ?_
    refine J_dup dX1_init_31 rfl ?_
    refine J_callI (As := []) (mc := mX2_init) (d' := (2, 18, 164)) dX1_init_32 mlX1_17 okX2_init (kX2_init _ _ S'.1 rfl (jKd_new S' 2 0)) (by decide) (by show 1 + 19 * i + 1 + 18 ≤ 77; omega) (by show 4 + 173 * i + 9 + 164 ≤ 696; omega) (Nat.le_of_ble_eq_true rfl) rfl ?_
    rintro _ S2 I2 ⟨rfl, h0⟩
    have hx : jExt S'.1 S' S2 I' I2 := (jExt.new (Nat.le_refl _)).tr h0.2.2.1
    have hN : S'.1 ≤ S2.1 := by rw [h0.1]; omega
    refine J_aastore (t := 12) (N := 4) dX1_init_35 (z4.ext hx (by omega) hN) (by decide) (by decide) h0.2.1.1 (vp_in_nI (n := i) (by omega) (by decide)) ?_
    refine J_iincv (y := 1) (v := nI (i + 1)) dX1_init_36 rfl rfl (by rw [← nI_1]) ?_
    refine J_goto (tgt := 14) dX1_init_39 (by decide) ?_
    rw [show (nI i).toNatClampNeg = i from nI_clamp (by omega)]
    have := ih (i + 1) _ _ (by omega) (lX1_step hL (by omega) h0)
    show J G (3, 77, 696) mX1_init 14 _ [] _ _ (1 + 19 * i + 1 + 18) (4 + 173 * i + 9 + 164)
    rw [show 1 + 19 * i + 1 + 18 = 1 + 19 * (i + 1) by omega, show 4 + 173 * i + 9 + 164 = 4 + 173 * (i + 1) by omega]
    exact this
/-- a History as its constructor leaves it -/
def jH1 (o : Nat) (S S' : jX) (I I' : jI) : Prop := S'.1 = o + 78 ∧ jHist S' o ∧ jExt o S S' I I' ∧ I' o = I o ∧ I' (o + 1) = (fun _ => 0) ∧ ∀ j, j < 4 → jZ I' (o + 2 + 19 * j)
set_option maxHeartbeats 2000000 in
theorem kX1_init (S : jX) (I : jI) (o : Nat) (hS : S.1 = o + 1) (hk : jKd S o 1 0) : jM (3, 77, 696) mX1_init [.ref o] S I (fun v S' I' => v = none ∧ jH1 o S S' I I') := by
  refine jM.of (ls := [.ref o, .long 0]) (by decide) (Nat.le_of_ble_eq_true rfl) (by intro v hv; simp only [List.mem_cons, List.not_mem_nil, or_false] at hv; rcases hv with rfl <;> rfl) rfl (fun G hR => ?_)
  refine J_aload_n dX1_init_0 rfl rfl ?_
  refine J_objInit (rest := []) dX1_init_1 jw_145 jw_17 jobj_code (Nat.le_of_ble_eq_true rfl) (Nat.le_of_ble_eq_true rfl) ?_
  refine J_aload_n dX1_init_4 rfl rfl ?_
  refine J_iconst 4 dX1_init_5 rfl ?_
  refine J_anew (N := 4) (t := 12) dX1_init_6 (by decide) (by decide) jw_146 (by decide) (by decide) (by decide) (Nat.le_of_ble_eq_true rfl) (Nat.le_of_ble_eq_true rfl) ?_
  refine J_putR (ci := 1) (j := 0) dX1_init_9 flX1_11 rfl rfl rfl rfl jw_149 (fun _ => rfl) (fun _ => rfl) (jKd_old hk) ?_
  refine J_iconst 0 dX1_init_12 rfl ?_
  refine J_istore_n dX1_init_13 (Nat.le_of_ble_eq_true rfl) ?_
  refine J_eq (ls' := [.ref o, .int (nI 0)]) rfl rfl ?_
  refine lX1 (S := S) (I := I) (o := o) (fun S3 I3 h3 => ?_) 4 0 _ _ rfl ?_
  · obtain ⟨z1, z2, z3, z4, z5, z6, z7, z8, z9⟩ := h3
    exact J_vret hR dX1_init_42 rfl (Nat.le_refl 77) (Nat.le_refl 696) ⟨rfl, z1, ⟨z2, z3, z4, z5⟩, z6, z7, z8, z9⟩
  · refine ⟨by show S.1 + 1 = _; omega, jKd_old hk, ?_, ?_, fun j hj => absurd hj (by omega), (jExt.new (by omega)).tr (jExt.setR (Nat.le_refl o)), jI_new (by omega), ?_, fun j hj => absurd hj (by omega)⟩
    · simp [jsetR, hS]
    · rw [← hS]; exact jKd_new S 12 4
    · rw [← hS]; funext b; simp [jnI]
theorem jHist.kp {lo hi o : Nat} {S S' : jX} {I I' : jI} (h : jHist S o) (he : jKeep lo hi S S' I I') (h1 : lo ≤ o) (h2 : o + 78 ≤ hi) (hN : hi ≤ S'.1) : jHist S' o := by
  obtain ⟨z1, z2, z3, z4⟩ := h
  refine ⟨z1.kp he (by omega) (by omega) hN, ?_, z3.kp he (by omega) (by omega) hN, fun i hi => ⟨(z4 i hi).1.kp he (by omega) (by omega) hN, ?_⟩⟩
  · rw [(he o (by omega) (by omega)).2.1]; exact z2
  · rw [(he (o + 1) (by omega) (by omega)).2.1]; exact (z4 i hi).2
theorem jText.kp {lo hi o : Nat} {S S' : jX} {I I' : jI} (h : jText S o) (he : jKeep lo hi S S' I I') (h1 : lo ≤ o) (h2 : o + 2 ≤ hi) (hN : hi ≤ S'.1) : jText S' o := by
  obtain ⟨z1, z2, z3⟩ := h
  refine ⟨z1.kp he (by omega) (by omega) hN, ?_, z3.kp he (by omega) (by omega) hN⟩
  rw [(he o (by omega) (by omega)).2.1]; exact z2
/-- the ints of a new BoilerPapers -/
def jZ6 (I : jI) : Prop := jZ I 1 ∧ jZ I 20 ∧ I 39 = (fun _ => 0) ∧ (∀ j, j < 4 → jZ I (41 + 19 * j)) ∧ I 117 = (fun _ => 0) ∧ I 119 = (fun _ => 0)
theorem jZ6.kp {hi : Nat} {S S' : jX} {I I' : jI} (h : jZ6 I) (he : jKeep 0 hi S S' I I') (h2 : 120 ≤ hi) : jZ6 I' := by
  obtain ⟨z1, z2, z3, z4, z5, z6⟩ := h
  refine ⟨z1.kp he (by omega) (by omega), z2.kp he (by omega) (by omega), ?_, fun j hj => (z4 j hj).kp he (by omega) (by omega), ?_, ?_⟩
  · rw [(he 39 (by omega) (by omega)).2.2]; exact z3
  · rw [(he 117 (by omega) (by omega)).2.2]; exact z5
  · rw [(he 119 (by omega) (by omega)).2.2]; exact z6
theorem jTop.kp {hi : Nat} {S S' : jX} {I I' : jI} (h : jTop S) (he : jKeep 0 hi S S' I I') (h2 : 120 ≤ hi) (hN : hi ≤ S'.1) : jTop S' := by
  obtain ⟨z1, z2, z3, z4, z5, z6, z7⟩ := h
  refine ⟨z1.kp he (by omega) (by omega) hN, ?_, z3.kp he (by omega) (by omega) hN, z4.kp he (by omega) (by omega) hN, z5.kp he (by omega) (by omega) hN, z6.kp he (by omega) (by omega) hN, z7.kp he (by omega) (by omega) hN⟩
  rw [(he 0 (by omega) (by omega)).2.1]
  exact z2
set_option maxRecDepth 100000 in
set_option maxHeartbeats 8000000 in
theorem kX6_init (S : jX) (I : jI) (hS : S.1 = 1) (hk : jKd S 0 6 0) : jM (4, 119, 1116) mX6_init [.ref 0] S I (fun v S' I' => v = none ∧ S'.1 = 120 ∧ jTop S' ∧ jZ6 I') := by
  refine jM.of (ls := [.ref 0]) (by decide) (Nat.le_of_ble_eq_true rfl) (by intro v hv; simp only [List.mem_cons, List.not_mem_nil, or_false] at hv; rcases hv with rfl <;> rfl) rfl (fun G hR => ?_)
  refine J_aload_n dX6_init_0 rfl rfl ?_
  refine J_objInit (rest := []) dX6_init_1 jw_16 jw_17 jobj_code (Nat.le_of_ble_eq_true rfl) (Nat.le_of_ble_eq_true rfl) ?_
  refine J_aload_n dX6_init_4 rfl rfl ?_
  refine J_new (ci := 2) dX6_init_5 (by decide) jw_19 jw_20 jw_2 (Nat.le_of_ble_eq_true rfl) (Nat.le_of_ble_eq_true rfl) ?_
  refine J_dup dX6_init_8 rfl ?_
  refine J_callI (As := []) (mc := mX2_init) (d' := (2, 18, 164)) dX6_init_9 mlX6_9 okX2_init (kX2_init _ _ S.1 rfl (jKd_new S 2 0)) (by decide) (Nat.le_of_ble_eq_true rfl) (Nat.le_of_ble_eq_true rfl) (Nat.le_of_ble_eq_true rfl) rfl ?_
  rintro _ S1a I1 ⟨rfl, h0⟩
  have x0 : jExt 1 S S1a I I1 := by
    have := (jExt.new (Nat.le_refl _)).tr h0.2.2.1
    rw [hS] at this
    exact this
  have e0 : S1a.1 = 20 := by rw [h0.1, hS]
  have t0 : jHouse S1a 1 := by have := h0.2.1; rw [hS] at this; exact this
  have z0 : jZ I1 1 := by have := h0.jz (by funext q; simp [jnI]); rw [hS] at this; exact this
  have a0 : jKd S1a 0 6 0 := hk.ext x0 (by omega) (by omega)
  refine J_putR (ci := 6) (j := 0) dX6_init_12 flX6_10 rfl rfl rfl rfl jw_211 (fun _ => rfl) (fun _ => rfl) a0 ?_
  rw [hS]
  generalize hS0 : jsetR S1a 0 0 1 = S1
  have f0 : S1.1 = 20 := by rw [← hS0]; exact e0
  have w0 : jKeep 1 1 S S1 I I1 := by rw [← hS0]; exact (x0.kp).tr (jKeep.setR (by omega))
  have v0 : jKeep 1 20 S1a S1 I1 I1 := by rw [← hS0]; exact jKeep.setR (by omega)
  have c0 : jKd S1 0 6 0 := by rw [← hS0]; exact a0
  have r0 : S1.2.2 0 0 = some 1 := by
    rw [← hS0]
    rfl
  refine J_aload_n dX6_init_15 rfl rfl ?_
  refine J_new (ci := 2) dX6_init_16 (by decide) jw_19 jw_20 jw_2 (Nat.le_of_ble_eq_true rfl) (Nat.le_of_ble_eq_true rfl) ?_
  refine J_dup dX6_init_19 rfl ?_
  refine J_callI (As := []) (mc := mX2_init) (d' := (2, 18, 164)) dX6_init_20 mlX6_9 okX2_init (kX2_init _ _ S1.1 rfl (jKd_new S1 2 0)) (by decide) (Nat.le_of_ble_eq_true rfl) (Nat.le_of_ble_eq_true rfl) (Nat.le_of_ble_eq_true rfl) rfl ?_
  rintro _ S2a I2 ⟨rfl, h1⟩
  have x1 : jExt 20 S1 S2a I1 I2 := by
    have := (jExt.new (Nat.le_refl _)).tr h1.2.2.1
    rw [f0] at this
    exact this
  have e1 : S2a.1 = 39 := by rw [h1.1, f0]
  have t1 : jHouse S2a 20 := by have := h1.2.1; rw [f0] at this; exact this
  have z1 : jZ I2 20 := by have := h1.jz (by funext q; simp [jnI]); rw [f0] at this; exact this
  have a1 : jKd S2a 0 6 0 := c0.ext x1 (by omega) (by omega)
  refine J_putR (ci := 6) (j := 1) dX6_init_23 flX6_16 rfl rfl rfl rfl jw_212 (fun _ => rfl) (fun _ => rfl) a1 ?_
  rw [f0]
  generalize hS1 : jsetR S2a 0 1 20 = S2
  have f1 : S2.1 = 39 := by rw [← hS1]; exact e1
  have w1 : jKeep 1 20 S1 S2 I1 I2 := by rw [← hS1]; exact (x1.kp).tr (jKeep.setR (by omega))
  have v1 : jKeep 1 39 S2a S2 I2 I2 := by rw [← hS1]; exact jKeep.setR (by omega)
  have c1 : jKd S2 0 6 0 := by rw [← hS1]; exact a1
  have r1 : S2.2.2 0 0 = some 1 ∧ S2.2.2 0 1 = some 20 := by
    rw [← hS1]
    refine ⟨?_, ?_⟩
    · show (if 0 = 0 ∧ 0 = 1 then some 20 else S2a.2.2 0 0) = some 1; rw [if_neg (by decide), (x1 0 (by omega)).2.1]; exact r0
    · rfl
  refine J_aload_n dX6_init_26 rfl rfl ?_
  refine J_new (ci := 1) dX6_init_27 (by decide) jw_140 jw_141 jw_5 (Nat.le_of_ble_eq_true rfl) (Nat.le_of_ble_eq_true rfl) ?_
  refine J_dup dX6_init_30 rfl ?_
  refine J_callI (As := []) (mc := mX1_init) (d' := (3, 77, 696)) dX6_init_31 mlX6_21 okX1_init (kX1_init _ _ S2.1 rfl (jKd_new S2 1 0)) (by decide) (Nat.le_of_ble_eq_true rfl) (Nat.le_of_ble_eq_true rfl) (Nat.le_of_ble_eq_true rfl) rfl ?_
  rintro _ S3a I3 ⟨rfl, h2⟩
  have x2 : jExt 39 S2 S3a I2 I3 := by
    have := (jExt.new (Nat.le_refl _)).tr h2.2.2.1
    rw [f1] at this
    exact this
  have e2 : S3a.1 = 117 := by rw [h2.1, f1]
  have t2 : jHist S3a 39 := by have := h2.2.1; rw [f1] at this; exact this
  have z2 : I3 39 = (fun _ => 0) ∧ ∀ j, j < 4 → jZ I3 (41 + 19 * j) := by
    have q1 := h2.2.2.2.1
    have q2 := h2.2.2.2.2.2
    rw [f1] at q1 q2
    exact ⟨by rw [q1]; funext q; simp [jnI, f1], q2⟩
  have a2 : jKd S3a 0 6 0 := c1.ext x2 (by omega) (by omega)
  refine J_putR (ci := 6) (j := 2) dX6_init_34 flX6_22 rfl rfl rfl rfl jw_213 (fun _ => rfl) (fun _ => rfl) a2 ?_
  rw [f1]
  generalize hS2 : jsetR S3a 0 2 39 = S3
  have f2 : S3.1 = 117 := by rw [← hS2]; exact e2
  have w2 : jKeep 1 39 S2 S3 I2 I3 := by rw [← hS2]; exact (x2.kp).tr (jKeep.setR (by omega))
  have v2 : jKeep 1 117 S3a S3 I3 I3 := by rw [← hS2]; exact jKeep.setR (by omega)
  have c2 : jKd S3 0 6 0 := by rw [← hS2]; exact a2
  have r2 : S3.2.2 0 0 = some 1 ∧ S3.2.2 0 1 = some 20 ∧ S3.2.2 0 2 = some 39 := by
    rw [← hS2]
    refine ⟨?_, ?_, ?_⟩
    · show (if 0 = 0 ∧ 0 = 2 then some 39 else S3a.2.2 0 0) = some 1; rw [if_neg (by decide), (x2 0 (by omega)).2.1]; exact r1.1
    · show (if 0 = 0 ∧ 1 = 2 then some 39 else S3a.2.2 0 1) = some 20; rw [if_neg (by decide), (x2 0 (by omega)).2.1]; exact r1.2
    · rfl
  refine J_aload_n dX6_init_37 rfl rfl ?_
  refine J_new (ci := 4) dX6_init_38 (by decide) jw_159 jw_160 jw_6 (Nat.le_of_ble_eq_true rfl) (Nat.le_of_ble_eq_true rfl) ?_
  refine J_dup dX6_init_41 rfl ?_
  refine J_callI (As := []) (mc := mX4_init) (d' := (1, 1, 60)) dX6_init_42 mlX6_28 okX4_init (kX4_init _ _ S3.1 rfl (jKd_new S3 4 0)) (by decide) (Nat.le_of_ble_eq_true rfl) (Nat.le_of_ble_eq_true rfl) (Nat.le_of_ble_eq_true rfl) rfl ?_
  rintro _ S4a I4 ⟨rfl, h3⟩
  have x3 : jExt 117 S3 S4a I3 I4 := by
    have := (jExt.new (Nat.le_refl _)).tr h3.2.2.1
    rw [f2] at this
    exact this
  have e3 : S4a.1 = 119 := by rw [h3.1, f2]
  have t3 : jText S4a 117 := by have := h3.2.1; rw [f2] at this; exact this
  have z3 : I4 117 = (fun _ => 0) := by have := h3.2.2.2; rw [f2] at this; rw [this]; funext q; simp [jnI, f2]
  have a3 : jKd S4a 0 6 0 := c2.ext x3 (by omega) (by omega)
  refine J_putR (ci := 6) (j := 3) dX6_init_45 flX6_29 rfl rfl rfl rfl jw_214 (fun _ => rfl) (fun _ => rfl) a3 ?_
  rw [f2]
  generalize hS3 : jsetR S4a 0 3 117 = S4
  have f3 : S4.1 = 119 := by rw [← hS3]; exact e3
  have w3 : jKeep 1 117 S3 S4 I3 I4 := by rw [← hS3]; exact (x3.kp).tr (jKeep.setR (by omega))
  have v3 : jKeep 1 119 S4a S4 I4 I4 := by rw [← hS3]; exact jKeep.setR (by omega)
  have c3 : jKd S4 0 6 0 := by rw [← hS3]; exact a3
  have r3 : S4.2.2 0 0 = some 1 ∧ S4.2.2 0 1 = some 20 ∧ S4.2.2 0 2 = some 39 ∧ S4.2.2 0 3 = some 117 := by
    rw [← hS3]
    refine ⟨?_, ?_, ?_, ?_⟩
    · show (if 0 = 0 ∧ 0 = 3 then some 117 else S4a.2.2 0 0) = some 1; rw [if_neg (by decide), (x3 0 (by omega)).2.1]; exact r2.1
    · show (if 0 = 0 ∧ 1 = 3 then some 117 else S4a.2.2 0 1) = some 20; rw [if_neg (by decide), (x3 0 (by omega)).2.1]; exact r2.2.1
    · show (if 0 = 0 ∧ 2 = 3 then some 117 else S4a.2.2 0 2) = some 39; rw [if_neg (by decide), (x3 0 (by omega)).2.1]; exact r2.2.2
    · rfl
  refine J_aload_n dX6_init_48 rfl rfl ?_
  refine J_new (ci := 5) dX6_init_49 (by decide) jw_192 jw_193 jw_7 (Nat.le_of_ble_eq_true rfl) (Nat.le_of_ble_eq_true rfl) ?_
  refine J_dup dX6_init_52 rfl ?_
  refine J_cI0 (mc := mX5_init) dX6_init_53 mlX6_35 okX5_init (kX5_init _ _ _) (by decide) (Nat.le_of_ble_eq_true rfl) (Nat.le_of_ble_eq_true rfl) (Nat.le_of_ble_eq_true rfl) ?_
  generalize hSa : jnS S4 5 0 = S5a
  generalize hIa : jnI S4 I4 = I5
  have x4 : jExt 119 S4 S5a I4 I5 := by rw [← hSa, ← hIa, ← f3]; exact jExt.new (Nat.le_refl _)
  have e4 : S5a.1 = 120 := by rw [← hSa]; show S4.1 + 1 = _; rw [f3]
  have t4 : jKd S5a 119 5 0 := by rw [← hSa, ← f3]; exact jKd_new S4 5 0
  have z4 : I5 119 = (fun _ => 0) := by rw [← hIa, ← f3]; funext q; simp [jnI]
  have a4 : jKd S5a 0 6 0 := c3.ext x4 (by omega) (by omega)
  refine J_putR (ci := 6) (j := 4) dX6_init_56 flX6_36 rfl rfl rfl rfl jw_215 (fun _ => rfl) (fun _ => rfl) a4 ?_
  rw [f3]
  generalize hS4 : jsetR S5a 0 4 119 = S5
  have f4 : S5.1 = 120 := by rw [← hS4]; exact e4
  have w4 : jKeep 1 119 S4 S5 I4 I5 := by rw [← hS4]; exact (x4.kp).tr (jKeep.setR (by omega))
  have v4 : jKeep 1 120 S5a S5 I5 I5 := by rw [← hS4]; exact jKeep.setR (by omega)
  have c4 : jKd S5 0 6 0 := by rw [← hS4]; exact a4
  have r4 : S5.2.2 0 0 = some 1 ∧ S5.2.2 0 1 = some 20 ∧ S5.2.2 0 2 = some 39 ∧ S5.2.2 0 3 = some 117 ∧ S5.2.2 0 4 = some 119 := by
    rw [← hS4]
    refine ⟨?_, ?_, ?_, ?_, ?_⟩
    · show (if 0 = 0 ∧ 0 = 4 then some 119 else S5a.2.2 0 0) = some 1; rw [if_neg (by decide), (x4 0 (by omega)).2.1]; exact r3.1
    · show (if 0 = 0 ∧ 1 = 4 then some 119 else S5a.2.2 0 1) = some 20; rw [if_neg (by decide), (x4 0 (by omega)).2.1]; exact r3.2.1
    · show (if 0 = 0 ∧ 2 = 4 then some 119 else S5a.2.2 0 2) = some 39; rw [if_neg (by decide), (x4 0 (by omega)).2.1]; exact r3.2.2.1
    · show (if 0 = 0 ∧ 3 = 4 then some 119 else S5a.2.2 0 3) = some 117; rw [if_neg (by decide), (x4 0 (by omega)).2.1]; exact r3.2.2.2
    · rfl
  refine J_vret hR dX6_init_59 rfl (Nat.le_of_ble_eq_true rfl) (Nat.le_of_ble_eq_true rfl) ⟨rfl, f4, ⟨c4, r4, (((((t0.kp v0 (by omega) (by omega) (by omega)).kp w1 (by omega) (by omega) (by omega)).kp w2 (by omega) (by omega) (by omega)).kp w3 (by omega) (by omega) (by omega)).kp w4 (by omega) (by omega) (by omega)), ((((t1.kp v1 (by omega) (by omega) (by omega)).kp w2 (by omega) (by omega) (by omega)).kp w3 (by omega) (by omega) (by omega)).kp w4 (by omega) (by omega) (by omega)), (((t2.kp v2 (by omega) (by omega) (by omega)).kp w3 (by omega) (by omega) (by omega)).kp w4 (by omega) (by omega) (by omega)), ((t3.kp v3 (by omega) (by omega) (by omega)).kp w4 (by omega) (by omega) (by omega)), t4.kp v4 (by omega) (by omega) (by omega)⟩, ((((z0.kp w1 (by omega) (by omega)).kp w2 (by omega) (by omega)).kp w3 (by omega) (by omega)).kp w4 (by omega) (by omega)), (((z1.kp w2 (by omega) (by omega)).kp w3 (by omega) (by omega)).kp w4 (by omega) (by omega)), ?_, fun j hj => (((z2.2 j hj).kp w3 (by omega) (by omega)).kp w4 (by omega) (by omega)), ?_, z4⟩
  · rw [(w4 39 (by omega) (by omega)).2.2, (w3 39 (by omega) (by omega)).2.2]; exact z2.1
  · rw [(w4 117 (by omega) (by omega)).2.2]; exact z3
/-- the ints of a new reference -/
def jZ7 (I : jI) : Prop := I 120 = (fun _ => 0) ∧ I 121 = (fun q => if q = 10 then 15 else if q = 9 then 8 else if q = 8 then 90 else if q = 7 then 120 else 0) ∧ I 122 = (fun _ => 0) ∧ I 123 = (fun _ => 0) ∧ I 124 = (fun _ => 0)
set_option maxRecDepth 100000 in
set_option maxHeartbeats 8000000 in
theorem kX7_init (S : jX) (I : jI) (hS : S.1 = 121) (hk : jKd S 120 7 0) (h0 : I 120 = fun _ => 0) : jM (1, 4, 906) mX7_init [.ref 120] S I (fun v S' I' => v = none ∧ S'.1 = 125 ∧ jModel S' 120 ∧ jExt 120 S S' I I' ∧ jZ7 I') := by
  refine jM.of (ls := [.ref 120]) (by decide) (Nat.le_of_ble_eq_true rfl) (by intro v hv; simp only [List.mem_cons, List.not_mem_nil, or_false] at hv; rcases hv with rfl <;> rfl) rfl (fun G hR => ?_)
  refine J_aload_n dX7_init_0 rfl rfl ?_
  refine J_objInit (rest := []) dX7_init_1 jw_704 jw_17 jobj_code (Nat.le_of_ble_eq_true rfl) (Nat.le_of_ble_eq_true rfl) ?_
  refine J_aload_n dX7_init_4 rfl rfl ?_
  refine J_sipush 141 dX7_init_5 rfl ?_
  refine J_newI (N := 141) dX7_init_8 jw_89 (by decide) (by decide) (by decide) (Nat.le_of_ble_eq_true rfl) (Nat.le_of_ble_eq_true rfl) ?_
  refine J_putR (ci := 7) (j := 0) dX7_init_10 flX7_7 rfl rfl rfl rfl jw_705 (fun _ => rfl) (fun _ => rfl) (jKd_old hk) ?_
  rw [hS]
  generalize hS0 : jsetR (jnS S 8 141) 120 0 121 = S1
  generalize hI0 : jnI S I = I1
  have f0 : S1.1 = 122 := by rw [← hS0]; show S.1 + 1 = _; rw [hS]
  have c0 : jKd S1 120 7 0 := by rw [← hS0]; exact jKd_old hk
  have t0 : jKd S1 121 8 141 := by rw [← hS0, ← hS]; exact jKd_new S 8 141
  have z0 : I1 121 = fun _ => 0 := by rw [← hI0, ← hS]; funext q; simp [jnI]
  have w0 : jKeep 121 121 S S1 I I1 := by rw [← hS0, ← hI0, ← hS]; exact ((jExt.new (Nat.le_refl _)).kp).tr (jKeep.setR (by omega))
  have x0 : jExt 120 S S1 I I1 := by rw [← hS0, ← hI0]; exact (jExt.new (by omega)).tr (jExt.setR (Nat.le_refl 120))
  have y0 : I1 120 = fun _ => 0 := by rw [← hI0, jI_new (by omega)]; exact h0
  have r0 : S1.2.2 120 0 = some 121 := by
    rw [← hS0]
    rfl
  refine J_aload_n dX7_init_13 rfl rfl ?_
  refine J_sipush 141 dX7_init_14 rfl ?_
  refine J_newI (N := 141) dX7_init_17 jw_89 (by decide) (by decide) (by decide) (Nat.le_of_ble_eq_true rfl) (Nat.le_of_ble_eq_true rfl) ?_
  refine J_putR (ci := 7) (j := 1) dX7_init_19 flX7_13 rfl rfl rfl rfl jw_706 (fun _ => rfl) (fun _ => rfl) (jKd_old c0) ?_
  rw [f0]
  generalize hS1 : jsetR (jnS S1 8 141) 120 1 122 = S2
  generalize hI1 : jnI S1 I1 = I2
  have f1 : S2.1 = 123 := by rw [← hS1]; show S1.1 + 1 = _; rw [f0]
  have c1 : jKd S2 120 7 0 := by rw [← hS1]; exact jKd_old c0
  have t1 : jKd S2 122 8 141 := by rw [← hS1, ← f0]; exact jKd_new S1 8 141
  have z1 : I2 122 = fun _ => 0 := by rw [← hI1, ← f0]; funext q; simp [jnI]
  have w1 : jKeep 121 122 S1 S2 I1 I2 := by rw [← hS1, ← hI1, ← f0]; exact ((jExt.new (Nat.le_refl _)).kp).tr (jKeep.setR (by omega))
  have x1 : jExt 120 S1 S2 I1 I2 := by rw [← hS1, ← hI1]; exact (jExt.new (by omega)).tr (jExt.setR (Nat.le_refl 120))
  have y1 : I2 120 = fun _ => 0 := by rw [← hI1, jI_new (by omega)]; exact y0
  have r1 : S2.2.2 120 0 = some 121 ∧ S2.2.2 120 1 = some 122 := by
    rw [← hS1]
    refine ⟨?_, ?_⟩
    · show (if 120 = 120 ∧ 0 = 1 then some 122 else (jnS S1 8 141).2.2 120 0) = some 121; rw [if_neg (by decide), jref_new (by omega)]; exact r0
    · rfl
  refine J_aload_n dX7_init_22 rfl rfl ?_
  refine J_sipush 564 dX7_init_23 rfl ?_
  refine J_newI (N := 564) dX7_init_26 jw_89 (by decide) (by decide) (by decide) (Nat.le_of_ble_eq_true rfl) (Nat.le_of_ble_eq_true rfl) ?_
  refine J_putR (ci := 7) (j := 2) dX7_init_28 flX7_16 rfl rfl rfl rfl jw_707 (fun _ => rfl) (fun _ => rfl) (jKd_old c1) ?_
  rw [f1]
  generalize hS2 : jsetR (jnS S2 8 564) 120 2 123 = S3
  generalize hI2 : jnI S2 I2 = I3
  have f2 : S3.1 = 124 := by rw [← hS2]; show S2.1 + 1 = _; rw [f1]
  have c2 : jKd S3 120 7 0 := by rw [← hS2]; exact jKd_old c1
  have t2 : jKd S3 123 8 564 := by rw [← hS2, ← f1]; exact jKd_new S2 8 564
  have z2 : I3 123 = fun _ => 0 := by rw [← hI2, ← f1]; funext q; simp [jnI]
  have w2 : jKeep 121 123 S2 S3 I2 I3 := by rw [← hS2, ← hI2, ← f1]; exact ((jExt.new (Nat.le_refl _)).kp).tr (jKeep.setR (by omega))
  have x2 : jExt 120 S2 S3 I2 I3 := by rw [← hS2, ← hI2]; exact (jExt.new (by omega)).tr (jExt.setR (Nat.le_refl 120))
  have y2 : I3 120 = fun _ => 0 := by rw [← hI2, jI_new (by omega)]; exact y1
  have r2 : S3.2.2 120 0 = some 121 ∧ S3.2.2 120 1 = some 122 ∧ S3.2.2 120 2 = some 123 := by
    rw [← hS2]
    refine ⟨?_, ?_, ?_⟩
    · show (if 120 = 120 ∧ 0 = 2 then some 123 else (jnS S2 8 564).2.2 120 0) = some 121; rw [if_neg (by decide), jref_new (by omega)]; exact r1.1
    · show (if 120 = 120 ∧ 1 = 2 then some 123 else (jnS S2 8 564).2.2 120 1) = some 122; rw [if_neg (by decide), jref_new (by omega)]; exact r1.2
    · rfl
  refine J_aload_n dX7_init_31 rfl rfl ?_
  refine J_bipush 60 dX7_init_32 rfl ?_
  refine J_newI (N := 60) dX7_init_34 jw_89 (by decide) (by decide) (by decide) (Nat.le_of_ble_eq_true rfl) (Nat.le_of_ble_eq_true rfl) ?_
  refine J_putR (ci := 7) (j := 4) dX7_init_36 flX7_19 rfl rfl rfl rfl jw_709 (fun _ => rfl) (fun _ => rfl) (jKd_old c2) ?_
  rw [f2]
  generalize hS3 : jsetR (jnS S3 8 60) 120 4 124 = S4
  generalize hI3 : jnI S3 I3 = I4
  have f3 : S4.1 = 125 := by rw [← hS3]; show S3.1 + 1 = _; rw [f2]
  have c3 : jKd S4 120 7 0 := by rw [← hS3]; exact jKd_old c2
  have t3 : jKd S4 124 8 60 := by rw [← hS3, ← f2]; exact jKd_new S3 8 60
  have z3 : I4 124 = fun _ => 0 := by rw [← hI3, ← f2]; funext q; simp [jnI]
  have w3 : jKeep 121 124 S3 S4 I3 I4 := by rw [← hS3, ← hI3, ← f2]; exact ((jExt.new (Nat.le_refl _)).kp).tr (jKeep.setR (by omega))
  have x3 : jExt 120 S3 S4 I3 I4 := by rw [← hS3, ← hI3]; exact (jExt.new (by omega)).tr (jExt.setR (Nat.le_refl 120))
  have y3 : I4 120 = fun _ => 0 := by rw [← hI3, jI_new (by omega)]; exact y2
  have r3 : S4.2.2 120 0 = some 121 ∧ S4.2.2 120 1 = some 122 ∧ S4.2.2 120 2 = some 123 ∧ S4.2.2 120 4 = some 124 := by
    rw [← hS3]
    refine ⟨?_, ?_, ?_, ?_⟩
    · show (if 120 = 120 ∧ 0 = 4 then some 124 else (jnS S3 8 60).2.2 120 0) = some 121; rw [if_neg (by decide), jref_new (by omega)]; exact r2.1
    · show (if 120 = 120 ∧ 1 = 4 then some 124 else (jnS S3 8 60).2.2 120 1) = some 122; rw [if_neg (by decide), jref_new (by omega)]; exact r2.2.1
    · show (if 120 = 120 ∧ 2 = 4 then some 124 else (jnS S3 8 60).2.2 120 2) = some 123; rw [if_neg (by decide), jref_new (by omega)]; exact r2.2.2
    · rfl
  have g0 : jKd S4 121 8 141 := ((t0.kp w1 (by omega) (by omega) (by omega)).kp w2 (by omega) (by omega) (by omega)).kp w3 (by omega) (by omega) (by omega)
  refine J_aload_n dX7_init_39 rfl rfl ?_
  refine J_getR dX7_init_40 flX7_7 rfl c3 r3.1 ?_
  refine J_bipush 7 dX7_init_43 rfl ?_
  refine J_bipush 120 dX7_init_45 rfl ?_
  refine J_iastore dX7_init_47 g0 (by unfold vp_in; decide) ?_
  refine J_aload_n dX7_init_48 rfl rfl ?_
  refine J_getR dX7_init_49 flX7_7 rfl c3 r3.1 ?_
  refine J_bipush 8 dX7_init_52 rfl ?_
  refine J_bipush 90 dX7_init_54 rfl ?_
  refine J_iastore dX7_init_56 g0 (by unfold vp_in; decide) ?_
  refine J_aload_n dX7_init_57 rfl rfl ?_
  refine J_getR dX7_init_58 flX7_7 rfl c3 r3.1 ?_
  refine J_bipush 9 dX7_init_61 rfl ?_
  refine J_bipush 8 dX7_init_63 rfl ?_
  refine J_iastore dX7_init_65 g0 (by unfold vp_in; decide) ?_
  refine J_aload_n dX7_init_66 rfl rfl ?_
  refine J_getR dX7_init_67 flX7_7 rfl c3 r3.1 ?_
  refine J_bipush 10 dX7_init_70 rfl ?_
  refine J_bipush 15 dX7_init_72 rfl ?_
  refine J_iastore dX7_init_74 g0 (by unfold vp_in; decide) ?_
  refine J_vret hR dX7_init_75 rfl (Nat.le_of_ble_eq_true rfl) (Nat.le_of_ble_eq_true rfl) ⟨rfl, f3, ⟨c3, r3, g0, ?_, ?_, t3⟩, ?_, ?_⟩
  · exact (t1.kp w2 (by omega) (by omega) (by omega)).kp w3 (by omega) (by omega) (by omega)
  · exact t2.kp w3 (by omega) (by omega) (by omega)
  · exact x0.tr (x1.tr (x2.tr (x3.tr ((jExt.set (by omega)).tr ((jExt.set (by omega)).tr ((jExt.set (by omega)).tr (jExt.set (by omega))))))))
  · have b1 : I4 121 = fun _ => 0 := by rw [(w3 121 (by omega) (by omega)).2.2, (w2 121 (by omega) (by omega)).2.2, (w1 121 (by omega) (by omega)).2.2]; exact z0
    have b2 : I4 122 = fun _ => 0 := by rw [(w3 122 (by omega) (by omega)).2.2, (w2 122 (by omega) (by omega)).2.2]; exact z1
    have b3 : I4 123 = fun _ => 0 := by rw [(w3 123 (by omega) (by omega)).2.2]; exact z2
    refine ⟨?_, ?_, ?_, ?_, ?_⟩
    · funext q; simp [jset, y3]
    · funext q; simp only [jset, b1, show ((7 : Int32).toNatClampNeg) = 7 from rfl, show ((8 : Int32).toNatClampNeg) = 8 from rfl, show ((9 : Int32).toNatClampNeg) = 9 from rfl, show ((10 : Int32).toNatClampNeg) = 10 from rfl, true_and]
    · funext q; simp [jset, b2]
    · funext q; simp [jset, b3]
    · funext q; simp [jset, z3]
