theorem jobj_code : Cond.code objectInit ⟨#[0xb1]⟩ 1 none ∈ jtw := jin 75 rfl rfl
/-- what stands below o is as it was -/
def jExt (o : Nat) (S S' : jX) (I I' : jI) : Prop := ∀ a, a < o → S'.2.1 a = S.2.1 a ∧ S'.2.2 a = S.2.2 a ∧ I' a = I a
theorem jExt.rf {o : Nat} {S : jX} {I : jI} : jExt o S S I I := fun _ _ => ⟨rfl, rfl, rfl⟩
theorem jExt.tr {o : Nat} {S1 S2 S3 : jX} {I1 I2 I3 : jI} (h1 : jExt o S1 S2 I1 I2) (h2 : jExt o S2 S3 I2 I3) : jExt o S1 S3 I1 I3 := fun a ha => ⟨(h2 a ha).1.trans (h1 a ha).1, (h2 a ha).2.1.trans (h1 a ha).2.1, (h2 a ha).2.2.trans (h1 a ha).2.2⟩
theorem jExt.le {o o' : Nat} {S S' : jX} {I I' : jI} (h : jExt o S S' I I') (hle : o' ≤ o) : jExt o' S S' I I' := fun a ha => h a (by omega)
theorem jExt.new {o t n : Nat} {S : jX} {I : jI} (h : o ≤ S.1) : jExt o S (jnS S t n) I (jnI S I) := by
  intro a ha
  have hne : ¬ a = S.1 := by omega
  refine ⟨by simp [jnS, hne], ?_, ?_⟩
  · funext j; simp [jnS, hne]
  · funext j; simp [jnI, hne]
theorem jExt.setR {o b j q : Nat} {S : jX} {I : jI} (h : o ≤ b) : jExt o S (jsetR S b j q) I I := by
  intro a ha
  have hne : ¬ a = b := by omega
  refine ⟨rfl, ?_, rfl⟩
  funext k; simp [jsetR, hne]
theorem jExt.set {o b j : Nat} {x : Int32} {S : jX} {I : jI} (h : o ≤ b) : jExt o S S I (jset I b j x) := by
  intro a ha
  have hne : ¬ a = b := by omega
  refine ⟨rfl, rfl, ?_⟩
  funext k; simp [jset, hne]
theorem jKd.ext {o a t n : Nat} {S S' : jX} {I I' : jI} (h : jKd S a t n) (he : jExt o S S' I I') (ha : a < o) (hN : o ≤ S'.1) : jKd S' a t n := ⟨by omega, by rw [(he a ha).1]; exact h.2⟩
theorem jHouse.ext {o N : Nat} {S S' : jX} {I I' : jI} (h : jHouse S o) (he : jExt N S S' I I') (ho : o + 19 ≤ N) (hN : N ≤ S'.1) : jHouse S' o := by
  refine ⟨h.1.ext he (by omega) hN, ⟨?_, ?_, ?_, ?_⟩, ⟨h.a0.ext he (by omega) hN, h.a1.ext he (by omega) hN, h.a2.ext he (by omega) hN, h.a3.ext he (by omega) hN⟩, fun i hi => ⟨(h.b hi).1.ext he (by omega) hN, ?_⟩, fun i hi => ⟨(h.c hi).1.ext he (by omega) hN, ?_⟩⟩
  · rw [(he o (by omega)).2.1]; exact h.r0
  · rw [(he o (by omega)).2.1]; exact h.r1
  · rw [(he o (by omega)).2.1]; exact h.r2
  · rw [(he o (by omega)).2.1]; exact h.r3
  · rw [(he (o + 1) (by omega)).2.1]; exact (h.b hi).2
  · rw [(he (o + 2) (by omega)).2.1]; exact (h.c hi).2
theorem kX0_init (S : jX) (I : jI) (o : Nat) : jM (1, 0, 0) mX0_init [.ref o] S I (jRes none S I) := by
  refine jM.of (ls := [.ref o]) (by decide) (Nat.le_of_ble_eq_true rfl) (by intro v hv; simp only [List.mem_cons, List.not_mem_nil, or_false] at hv; rcases hv with rfl <;> rfl) rfl (fun G hR => ?_)
  refine J_aload_n dX0_init_0 rfl rfl ?_
  refine J_objInit (rest := []) dX0_init_1 jw_33 jw_17 jobj_code (Nat.le_of_ble_eq_true rfl) (Nat.le_of_ble_eq_true rfl) ?_
  exact J_vret hR dX0_init_4 rfl (Nat.le_of_ble_eq_true rfl) (Nat.le_of_ble_eq_true rfl) ⟨rfl, rfl, rfl⟩
theorem kX3_init (S : jX) (I : jI) (o : Nat) : jM (1, 0, 0) mX3_init [.ref o] S I (jRes none S I) := by
  refine jM.of (ls := [.ref o]) (by decide) (Nat.le_of_ble_eq_true rfl) (by intro v hv; simp only [List.mem_cons, List.not_mem_nil, or_false] at hv; rcases hv with rfl <;> rfl) rfl (fun G hR => ?_)
  refine J_aload_n dX3_init_0 rfl rfl ?_
  refine J_objInit (rest := []) dX3_init_1 jw_94 jw_17 jobj_code (Nat.le_of_ble_eq_true rfl) (Nat.le_of_ble_eq_true rfl) ?_
  exact J_vret hR dX3_init_4 rfl (Nat.le_of_ble_eq_true rfl) (Nat.le_of_ble_eq_true rfl) ⟨rfl, rfl, rfl⟩
theorem kX5_init (S : jX) (I : jI) (o : Nat) : jM (1, 0, 0) mX5_init [.ref o] S I (jRes none S I) := by
  refine jM.of (ls := [.ref o]) (by decide) (Nat.le_of_ble_eq_true rfl) (by intro v hv; simp only [List.mem_cons, List.not_mem_nil, or_false] at hv; rcases hv with rfl <;> rfl) rfl (fun G hR => ?_)
  refine J_aload_n dX5_init_0 rfl rfl ?_
  refine J_objInit (rest := []) dX5_init_1 jw_197 jw_17 jobj_code (Nat.le_of_ble_eq_true rfl) (Nat.le_of_ble_eq_true rfl) ?_
  exact J_vret hR dX5_init_4 rfl (Nat.le_of_ble_eq_true rfl) (Nat.le_of_ble_eq_true rfl) ⟨rfl, rfl, rfl⟩
theorem kX4_init (S : jX) (I : jI) (o : Nat) (hS : S.1 = o + 1) (hk : jKd S o 4 0) : jM (1, 1, 60) mX4_init [.ref o] S I (fun v S' I' => v = none ∧ S'.1 = o + 2 ∧ jText S' o ∧ jExt o S S' I I' ∧ I' o = I o) := by
  refine jM.of (ls := [.ref o]) (by decide) (Nat.le_of_ble_eq_true rfl) (by intro v hv; simp only [List.mem_cons, List.not_mem_nil, or_false] at hv; rcases hv with rfl <;> rfl) rfl (fun G hR => ?_)
  refine J_aload_n dX4_init_0 rfl rfl ?_
  refine J_objInit (rest := []) dX4_init_1 jw_164 jw_17 jobj_code (Nat.le_of_ble_eq_true rfl) (Nat.le_of_ble_eq_true rfl) ?_
  refine J_aload_n dX4_init_4 rfl rfl ?_
  refine J_bipush 60 dX4_init_5 rfl ?_
  refine J_newC (N := 60) dX4_init_7 jw_191 (by decide) (by decide) (by decide) (Nat.le_refl 1) (Nat.le_refl 60) ?_
  refine J_putR (ci := 4) (j := 0) dX4_init_9 flX4_9 rfl rfl rfl rfl jw_165 (fun _ => rfl) (fun _ => rfl) (jKd_old hk) ?_
  refine J_vret hR dX4_init_12 rfl (Nat.le_refl 1) (Nat.le_refl 60) ⟨rfl, by show S.1 + 1 = o + 2; omega, ⟨jKd_old hk, ?_, ?_⟩, (jExt.new (by omega)).tr (jExt.setR (Nat.le_refl o)), ?_⟩
  · simp [jsetR, hS]
  · rw [← hS]; exact jKd_new S 9 60
  · funext j; simp [jnI, hS]
def LB (o i : Nat) (S S' : jX) (I I' : jI) : Prop := S'.1 = o + 5 + i ∧ jKd S' o 2 0 ∧ (S'.2.2 o 0 = some (o + 1) ∧ S'.2.2 o 1 = some (o + 2) ∧ S'.2.2 o 2 = some (o + 3) ∧ S'.2.2 o 3 = some (o + 4)) ∧ (jKd S' (o + 1) 10 8 ∧ jKd S' (o + 2) 11 6 ∧ jKd S' (o + 3) 8 4 ∧ jKd S' (o + 4) 8 4) ∧ (∀ j, j < i → jKd S' (o + 5 + j) 0 0 ∧ S'.2.2 (o + 1) j = some (o + 5 + j)) ∧ jExt o S S' I I' ∧ I' o = I o ∧ (I' (o + 3) 0 = 120 ∧ I' (o + 3) 1 = 90 ∧ I' (o + 3) 2 = 8 ∧ I' (o + 3) 3 = 15) ∧ ∀ a, o + 1 ≤ a → a < S'.1 → a ≠ o + 3 → I' a = fun _ => 0
def LI (o i : Nat) (S S' : jX) (I I' : jI) : Prop := S'.1 = o + 13 + i ∧ jKd S' o 2 0 ∧ (S'.2.2 o 0 = some (o + 1) ∧ S'.2.2 o 1 = some (o + 2) ∧ S'.2.2 o 2 = some (o + 3) ∧ S'.2.2 o 3 = some (o + 4)) ∧ (jKd S' (o + 1) 10 8 ∧ jKd S' (o + 2) 11 6 ∧ jKd S' (o + 3) 8 4 ∧ jKd S' (o + 4) 8 4) ∧ (∀ j, j < 8 → jKd S' (o + 5 + j) 0 0 ∧ S'.2.2 (o + 1) j = some (o + 5 + j)) ∧ (∀ j, j < i → jKd S' (o + 13 + j) 3 0 ∧ S'.2.2 (o + 2) j = some (o + 13 + j)) ∧ jExt o S S' I I' ∧ I' o = I o ∧ (I' (o + 3) 0 = 120 ∧ I' (o + 3) 1 = 90 ∧ I' (o + 3) 2 = 8 ∧ I' (o + 3) 3 = 15) ∧ ∀ a, o + 1 ≤ a → a < S'.1 → a ≠ o + 3 → I' a = fun _ => 0
theorem jref_new {S : jX} {t n a b : Nat} (h : a < S.1) : (jnS S t n).2.2 a b = S.2.2 a b := if_neg (by show ¬ a = S.1; omega)
theorem jrefs_new {S : jX} {t n a : Nat} (h : a < S.1) : (jnS S t n).2.2 a = S.2.2 a := by funext b; exact jref_new h
theorem jrefs_set {S : jX} {b j q a : Nat} (h : a ≠ b) : (jsetR S b j q).2.2 a = S.2.2 a := by funext k; simp [jsetR, h]
theorem jI_new {S : jX} {I : jI} {a : Nat} (h : a < S.1) : jnI S I a = I a := by funext b; exact if_neg (by show ¬ a = S.1; omega)
set_option maxRecDepth 100000 in
set_option maxHeartbeats 4000000 in
theorem h0X2 {S : jX} {I : jI} {o : Nat} {G : jG} (hS : S.1 = o + 1) (hk : jKd S o 2 0) (hnx : ∀ S' I', LB o 0 S S' I I' → J G (2, 18, 164) mX2_init 74 [.ref o, .int 0] [] S' I' 4 22) : J G (2, 18, 164) mX2_init 0 [.ref o, .long 0] [] S I 0 0 := by
  obtain ⟨N, KD, RF⟩ := S
  have hS : N = o + 1 := hS
  subst hS
  have hkd : KD o = (2, 0) := hk.2
  refine J_aload_n dX2_init_0 rfl rfl ?_
  refine J_objInit (rest := []) dX2_init_1 jw_24 jw_17 jobj_code (Nat.le_of_ble_eq_true rfl) (Nat.le_of_ble_eq_true rfl) ?_
  refine J_aload_n dX2_init_4 rfl rfl ?_
  refine J_bipush 8 dX2_init_5 rfl ?_
  refine J_anew (N := 8) (t := 10) dX2_init_7 (by decide) (by decide) jw_25 (by decide) (by decide) (by decide) (Nat.le_of_ble_eq_true rfl) (Nat.le_of_ble_eq_true rfl) ?_
  refine J_putR (ci := 2) (j := 0) dX2_init_10 flX2_11 rfl rfl rfl rfl jw_112 (fun _ => rfl) (fun _ => rfl) (jKd_old hk) ?_
  generalize hS2 : jsetR (jnS (o + 1, KD, RF) 10 8) o 0 (o + 1, KD, RF).1 = S2
  generalize hI2 : jnI (o + 1, KD, RF) I = I2
  have e1 : S2.1 = o + 2 := by rw [← hS2]; rfl
  have k2 : jKd S2 o 2 0 := by rw [← hS2]; exact jKd_old hk
  have a2 : jKd S2 (o + 1) 10 8 := by rw [← hS2]; exact jKd_new (o + 1, KD, RF) 10 8
  have r20 : S2.2.2 o 0 = some (o + 1) := by rw [← hS2]; simp [jsetR]
  have x2 : jExt o (o + 1, KD, RF) S2 I I2 := by rw [← hS2, ← hI2]; exact (jExt.new (by show o ≤ o + 1; omega)).tr (jExt.setR (Nat.le_refl o))
  have i2 : I2 o = I o := by rw [← hI2]; exact jI_new (S := (o + 1, KD, RF)) (by show o < o + 1; omega)
  have y2 : I2 (o + 1) = fun _ => 0 := by rw [← hI2]; funext q; simp [jnI]
  refine J_aload_n dX2_init_13 rfl rfl ?_
  refine J_bipush 6 dX2_init_14 rfl ?_
  refine J_anew (N := 6) (t := 11) dX2_init_16 (by decide) (by decide) jw_27 (by decide) (by decide) (by decide) (Nat.le_of_ble_eq_true rfl) (Nat.le_of_ble_eq_true rfl) ?_
  refine J_putR (ci := 2) (j := 1) dX2_init_19 flX2_19 rfl rfl rfl rfl jw_113 (fun _ => rfl) (fun _ => rfl) (jKd_old k2) ?_
  generalize hS3 : jsetR (jnS S2 11 6) o 1 S2.1 = S3
  generalize hI3 : jnI S2 I2 = I3
  have e3 : S3.1 = o + 3 := by rw [← hS3]; show S2.1 + 1 = _; omega
  have k3 : jKd S3 o 2 0 := by rw [← hS3]; exact jKd_old k2
  have a3 : jKd S3 (o + 1) 10 8 := by rw [← hS3]; exact jKd_old a2
  have b3 : jKd S3 (o + 2) 11 6 := by rw [← hS3, ← e1]; exact jKd_new S2 11 6
  have r30 : S3.2.2 o 0 = some (o + 1) := by rw [← hS3]; simp only [jsetR, show ¬ (0 = 1) from by decide, and_false, if_false]; rw [jref_new (by omega)]; exact r20
  have r31 : S3.2.2 o 1 = some (o + 2) := by rw [← hS3]; simp [jsetR, e1]
  have x3 : jExt o (o + 1, KD, RF) S3 I I3 := by rw [← hS3, ← hI3]; exact x2.tr ((jExt.new (by omega)).tr (jExt.setR (Nat.le_refl o)))
  have i3 : I3 o = I o := by rw [← hI3, jI_new (by omega)]; exact i2
  have y3 : I3 (o + 1) = (fun _ => 0) ∧ I3 (o + 2) = fun _ => 0 := by
    rw [← hI3]
    refine ⟨by rw [jI_new (by omega)]; exact y2, ?_⟩
    funext q; simp [jnI, e1]
  refine J_aload_n dX2_init_22 rfl rfl ?_
  refine J_iconst 4 dX2_init_23 rfl ?_
  refine J_newI (N := 4) dX2_init_24 jw_89 (by decide) (by decide) (by decide) (Nat.le_of_ble_eq_true rfl) (Nat.le_of_ble_eq_true rfl) ?_
  have an : jKd (jnS S3 8 4) S3.1 8 4 := jKd_new S3 8 4
  refine J_dup dX2_init_26 rfl ?_
  refine J_iconst 0 dX2_init_27 rfl ?_
  refine J_bipush 120 dX2_init_28 rfl ?_
  refine J_iastore dX2_init_30 an (by unfold vp_in; decide) ?_
  refine J_dup dX2_init_31 rfl ?_
  refine J_iconst 1 dX2_init_32 rfl ?_
  refine J_bipush 90 dX2_init_33 rfl ?_
  refine J_iastore dX2_init_35 an (by unfold vp_in; decide) ?_
  refine J_dup dX2_init_36 rfl ?_
  refine J_iconst 2 dX2_init_37 rfl ?_
  refine J_bipush 8 dX2_init_38 rfl ?_
  refine J_iastore dX2_init_40 an (by unfold vp_in; decide) ?_
  refine J_dup dX2_init_41 rfl ?_
  refine J_iconst 3 dX2_init_42 rfl ?_
  refine J_bipush 15 dX2_init_43 rfl ?_
  refine J_iastore dX2_init_45 an (by unfold vp_in; decide) ?_
  refine J_putR (ci := 2) (j := 2) dX2_init_46 flX2_23 rfl rfl rfl rfl jw_114 (fun _ => rfl) (fun _ => rfl) (jKd_old k3) ?_
  generalize hS4 : jsetR (jnS S3 8 4) o 2 S3.1 = S4
  generalize hI4 : jset (jset (jset (jset (jnI S3 I3) S3.1 ((0 : Int32).toNatClampNeg) 120) S3.1 ((1 : Int32).toNatClampNeg) 90) S3.1 ((2 : Int32).toNatClampNeg) 8) S3.1 ((3 : Int32).toNatClampNeg) 15 = I4
  have e4 : S4.1 = o + 4 := by rw [← hS4]; show S3.1 + 1 = _; omega
  have k4 : jKd S4 o 2 0 := by rw [← hS4]; exact jKd_old k3
  have a4 : jKd S4 (o + 1) 10 8 := by rw [← hS4]; exact jKd_old a3
  have b4 : jKd S4 (o + 2) 11 6 := by rw [← hS4]; exact jKd_old b3
  have c4 : jKd S4 (o + 3) 8 4 := by rw [← hS4, ← e3]; exact jKd_new S3 8 4
  have r40 : S4.2.2 o 0 = some (o + 1) := by rw [← hS4]; simp only [jsetR, show ¬ (0 = 2) from by decide, and_false, if_false]; rw [jref_new (by omega)]; exact r30
  have r41 : S4.2.2 o 1 = some (o + 2) := by rw [← hS4]; simp only [jsetR, show ¬ (1 = 2) from by decide, and_false, if_false]; rw [jref_new (by omega)]; exact r31
  have r42 : S4.2.2 o 2 = some (o + 3) := by rw [← hS4]; simp [jsetR, e3]
  have x4 : jExt o (o + 1, KD, RF) S4 I I4 := by
    rw [← hS4, ← hI4]
    exact x3.tr ((jExt.new (by omega)).tr ((jExt.set (by omega)).tr ((jExt.set (by omega)).tr ((jExt.set (by omega)).tr ((jExt.set (by omega)).tr (jExt.setR (Nat.le_refl o)))))))
  have i4 : I4 o = I o := by
    rw [← hI4]
    have hne : ¬ o = S3.1 := by omega
    funext q
    simp only [jset, hne, false_and, if_false]
    rw [jI_new (by omega), i3]
  have y4 : I4 (o + 1) = (fun _ => 0) ∧ I4 (o + 2) = fun _ => 0 := by
    rw [← hI4]
    have h1 : ¬ o + 1 = S3.1 := by omega
    have h2 : ¬ o + 2 = S3.1 := by omega
    constructor
    · funext q; simp only [jset, h1, false_and, if_false]; rw [jI_new (by omega), y3.1]
    · funext q; simp only [jset, h2, false_and, if_false]; rw [jI_new (by omega), y3.2]
  have s4 : I4 (o + 3) 0 = 120 ∧ I4 (o + 3) 1 = 90 ∧ I4 (o + 3) 2 = 8 ∧ I4 (o + 3) 3 = 15 := by
    rw [← hI4, e3]
    refine ⟨?_, ?_, ?_, ?_⟩ <;> simp [jset, show ((0 : Int32).toNatClampNeg) = 0 from rfl, show ((1 : Int32).toNatClampNeg) = 1 from rfl, show ((2 : Int32).toNatClampNeg) = 2 from rfl, show ((3 : Int32).toNatClampNeg) = 3 from rfl]
  refine J_aload_n dX2_init_49 rfl rfl ?_
  refine J_iconst 4 dX2_init_50 rfl ?_
  refine J_newI (N := 4) dX2_init_51 jw_89 (by decide) (by decide) (by decide) (Nat.le_of_ble_eq_true rfl) (Nat.le_of_ble_eq_true rfl) ?_
  have an2 : jKd (jnS S4 8 4) S4.1 8 4 := jKd_new S4 8 4
  refine J_dup dX2_init_53 rfl ?_
  refine J_iconst 0 dX2_init_54 rfl ?_
  refine J_iconst 0 dX2_init_55 rfl ?_
  refine J_iastore dX2_init_56 an2 (by unfold vp_in; decide) ?_
  refine J_dup dX2_init_57 rfl ?_
  refine J_iconst 1 dX2_init_58 rfl ?_
  refine J_iconst 0 dX2_init_59 rfl ?_
  refine J_iastore dX2_init_60 an2 (by unfold vp_in; decide) ?_
  refine J_dup dX2_init_61 rfl ?_
  refine J_iconst 2 dX2_init_62 rfl ?_
  refine J_iconst 0 dX2_init_63 rfl ?_
  refine J_iastore dX2_init_64 an2 (by unfold vp_in; decide) ?_
  refine J_dup dX2_init_65 rfl ?_
  refine J_iconst 3 dX2_init_66 rfl ?_
  refine J_iconst 0 dX2_init_67 rfl ?_
  refine J_iastore dX2_init_68 an2 (by unfold vp_in; decide) ?_
  refine J_putR (ci := 2) (j := 3) dX2_init_69 flX2_27 rfl rfl rfl rfl jw_115 (fun _ => rfl) (fun _ => rfl) (jKd_old k4) ?_
  refine J_iconst 0 dX2_init_72 rfl ?_
  refine J_istore_n dX2_init_73 (Nat.le_of_ble_eq_true rfl) ?_
  refine hnx _ _ ⟨by show S4.1 + 1 = _; omega, jKd_old k4, ⟨?_, ?_, ?_, ?_⟩, ⟨jKd_old a4, jKd_old b4, jKd_old c4, ?_⟩, fun j hj => absurd hj (by omega), ?_, ?_, ?_, ?_⟩
  · simp only [jsetR, show ¬ (0 = 3) from by decide, and_false, if_false]; rw [jref_new (by omega)]; exact r40
  · simp only [jsetR, show ¬ (1 = 3) from by decide, and_false, if_false]; rw [jref_new (by omega)]; exact r41
  · simp only [jsetR, show ¬ (2 = 3) from by decide, and_false, if_false]; rw [jref_new (by omega)]; exact r42
  · simp [jsetR, e4]
  · rw [← e4]; exact jKd_new S4 8 4
  · exact x4.tr ((jExt.new (by omega)).tr ((jExt.set (by omega)).tr ((jExt.set (by omega)).tr ((jExt.set (by omega)).tr ((jExt.set (by omega)).tr (jExt.setR (Nat.le_refl o)))))))
  · have hne : ¬ o = S4.1 := by omega
    funext q
    simp only [jset, hne, false_and, if_false]
    rw [jI_new (by omega), i4]
  · have hne : ¬ o + 3 = S4.1 := by omega
    simp only [jset, hne, false_and, if_false]
    rw [jI_new (by omega)]
    exact s4
  · intro q h1 h2 h3
    have h2 : q < S4.1 + 1 := h2
    by_cases h4 : q = o + 4
    · subst h4
      funext b
      simp [jset, jnI, e4]
    · have hne : ¬ q = S4.1 := by omega
      funext b
      simp only [jset, hne, false_and, if_false]
      rw [jI_new (by omega)]
      rcases (show q = o + 1 ∨ q = o + 2 by omega) with rfl | rfl
      · rw [y4.1]
      · rw [y4.2]
theorem l0X2_step {S S' : jX} {I I' : jI} {o i : Nat} (h : LB o i S S' I I') (hi : i < 8) : LB o (i + 1) S (jsetR (jnS S' 0 0) (o + 1) i S'.1) I (jnI S' I') := by
  obtain ⟨z1, z2, z3, z4, z5, z6, z7, z8, z9⟩ := h
  have ha : ∀ a, a < S'.1 → a ≠ o + 1 → (jsetR (jnS S' 0 0) (o + 1) i S'.1).2.2 a = S'.2.2 a := fun a h1 h2 => by rw [jrefs_set h2]; exact jrefs_new h1
  refine ⟨by show S'.1 + 1 = _; omega, jKd_old z2, ?_, ⟨jKd_old z4.1, jKd_old z4.2.1, jKd_old z4.2.2.1, jKd_old z4.2.2.2⟩, ?_, ?_, ?_, ?_, ?_⟩
  · rw [ha o (by omega) (by omega)]; exact z3
  · intro j hj
    by_cases hji : j = i
    · subst hji
      refine ⟨?_, ?_⟩
      · rw [← z1]; exact jKd_new S' 0 0
      · rw [← z1]; simp [jsetR]
    · refine ⟨jKd_old (z5 j (by omega)).1, ?_⟩
      have hne : ¬ (o + 1 = o + 1 ∧ j = i) := fun q => hji q.2
      show (if o + 1 = o + 1 ∧ j = i then _ else _) = _
      rw [if_neg hne, jref_new (by omega)]
      exact (z5 j (by omega)).2
  · exact z6.tr ((jExt.new (by omega)).tr (jExt.setR (by omega)))
  · rw [jI_new (by omega)]; exact z7
  · rw [jI_new (by omega)]; exact z8
  · intro a h1 h2 h3
    have h2 : a < S'.1 + 1 := h2
    by_cases h4 : a = S'.1
    · subst h4; funext b; simp [jnI]
    · rw [jI_new (by omega)]; exact z9 a h1 (by omega) h3
theorem l1X2_step {S S' : jX} {I I' : jI} {o i : Nat} (h : LI o i S S' I I') (hi : i < 6) : LI o (i + 1) S (jsetR (jnS S' 3 0) (o + 2) i S'.1) I (jnI S' I') := by
  obtain ⟨z1, z2, z3, z4, z5, zi, z6, z7, z8, z9⟩ := h
  have ha : ∀ a, a < S'.1 → a ≠ o + 2 → (jsetR (jnS S' 3 0) (o + 2) i S'.1).2.2 a = S'.2.2 a := fun a h1 h2 => by rw [jrefs_set h2]; exact jrefs_new h1
  refine ⟨by show S'.1 + 1 = _; omega, jKd_old z2, ?_, ⟨jKd_old z4.1, jKd_old z4.2.1, jKd_old z4.2.2.1, jKd_old z4.2.2.2⟩, ?_, ?_, ?_, ?_, ?_, ?_⟩
  · rw [ha o (by omega) (by omega)]; exact z3
  · intro j hj
    refine ⟨jKd_old (z5 j hj).1, ?_⟩
    rw [ha (o + 1) (by omega) (by omega)]
    exact (z5 j hj).2
  · intro j hj
    by_cases hji : j = i
    · subst hji
      refine ⟨?_, ?_⟩
      · rw [← z1]; exact jKd_new S' 3 0
      · rw [← z1]; simp [jsetR]
    · refine ⟨jKd_old (zi j (by omega)).1, ?_⟩
      have hne : ¬ (o + 2 = o + 2 ∧ j = i) := fun q => hji q.2
      show (if o + 2 = o + 2 ∧ j = i then _ else _) = _
      rw [if_neg hne, jref_new (by omega)]
      exact (zi j (by omega)).2
  · exact z6.tr ((jExt.new (by omega)).tr (jExt.setR (by omega)))
  · rw [jI_new (by omega)]; exact z7
  · rw [jI_new (by omega)]; exact z8
  · intro a h1 h2 h3
    have h2 : a < S'.1 + 1 := h2
    by_cases h4 : a = S'.1
    · subst h4; funext b; simp [jnI]
    · rw [jI_new (by omega)]; exact z9 a h1 (by omega) h3
set_option maxRecDepth 100000 in
set_option maxHeartbeats 4000000 in
theorem l0X2 {S : jX} {I : jI} {o : Nat} {G : jG} (hnx : ∀ S' I', LB o 8 S S' I I' → J G (2, 18, 164) mX2_init 102 [.ref o, .int 8] [] S' I' (4 + 8) (22 + 14 * 8)) : ∀ (c i : Nat) (S' : jX) (I' : jI), i + c = 8 → LB o i S S' I I' → J G (2, 18, 164) mX2_init 74 [.ref o, .int (nI i)] [] S' I' (4 + i) (22 + 14 * i) := by
  intro c
  induction c with
  | zero =>
    intro i S' I' hi hL
    have hi2 : i = 8 := by omega
    subst hi2
    obtain ⟨z1, z2, z3, z4, z5⟩ := id hL
    refine J_iload_n dX2_init_74 rfl ?_
    refine J_aload_n dX2_init_75 rfl rfl ?_
    refine J_getR dX2_init_76 flX2_11 rfl z2 z3.1 ?_
    refine J_alen (x := 8) dX2_init_79 z4.1 ⟨by decide, by decide⟩ rfl ?_
    refine J_icmp_ge (tgt := 102) dX2_init_80 (by decide) (fun _ => ?_) (fun h1 => absurd (nI_le (a := 8) (b := 8) (by omega) (by omega)) h1)
    exact hnx S' I' hL
  | succ c ih =>
    intro i S' I' hi hL
    obtain ⟨z1, z2, z3, z4, z5⟩ := id hL
    refine J_iload_n dX2_init_74 rfl ?_
    refine J_aload_n dX2_init_75 rfl rfl ?_
    refine J_getR dX2_init_76 flX2_11 rfl z2 z3.1 ?_
    refine J_alen (x := 8) dX2_init_79 z4.1 ⟨by decide, by decide⟩ rfl ?_
    refine J_icmp_ge (tgt := 102) dX2_init_80 (by decide) (fun h1 => absurd h1 (nI_ge (a := i) (b := 8) (by omega) (by decide))) (fun _ => ?_)
    refine J_aload_n dX2_init_83 rfl rfl ?_
    refine J_getR dX2_init_84 flX2_11 rfl z2 z3.1 ?_
    refine J_iload_n dX2_init_87 rfl ?_
    refine J_new (ci := 0) dX2_init_88 (by decide) jw_25 jw_29 jw_3 (by show 4 + i + 1 ≤ 18; omega) (by show 22 + 14 * i + 14 ≤ 164; omega) ?_
    refine J_dup dX2_init_91 rfl ?_
    refine J_cI0 (mc := mX0_init) dX2_init_92 mlX2_30 okX0_init (kX0_init _ _ _) (by decide) (by show 4 + i + 1 ≤ 18; omega) (by show 22 + 14 * i + 14 ≤ 164; omega) (Nat.le_of_ble_eq_true rfl) ?_
    refine J_aastore (t := 10) (N := 8) dX2_init_95 (jKd_old z4.1) (by decide) (by decide) (jKd_new S' 0 0) (vp_in_nI (n := i) (by omega) (by decide)) ?_
    refine J_iincv (y := 1) (v := nI (i + 1)) dX2_init_96 rfl rfl (by rw [← nI_1]) ?_
    refine J_goto (tgt := 74) dX2_init_99 (by decide) ?_
    rw [show (nI i).toNatClampNeg = i from nI_clamp (by omega)]
    exact ih (i + 1) _ _ (by omega) (l0X2_step hL (by omega))
set_option maxRecDepth 100000 in
set_option maxHeartbeats 4000000 in
theorem l1X2 {S : jX} {I : jI} {o : Nat} {G : jG} (hnx : ∀ S' I', LI o 6 S S' I I' → J G (2, 18, 164) mX2_init 132 [.ref o, .int 6] [] S' I' (12 + 6) (134 + 5 * 6)) : ∀ (c i : Nat) (S' : jX) (I' : jI), i + c = 6 → LI o i S S' I I' → J G (2, 18, 164) mX2_init 104 [.ref o, .int (nI i)] [] S' I' (12 + i) (134 + 5 * i) := by
  intro c
  induction c with
  | zero =>
    intro i S' I' hi hL
    have hi2 : i = 6 := by omega
    subst hi2
    obtain ⟨z1, z2, z3, z4, z5⟩ := id hL
    refine J_iload_n dX2_init_104 rfl ?_
    refine J_aload_n dX2_init_105 rfl rfl ?_
    refine J_getR dX2_init_106 flX2_19 rfl z2 z3.2.1 ?_
    refine J_alen (x := 6) dX2_init_109 z4.2.1 ⟨by decide, by decide⟩ rfl ?_
    refine J_icmp_ge (tgt := 132) dX2_init_110 (by decide) (fun _ => ?_) (fun h1 => absurd (nI_le (a := 6) (b := 6) (by omega) (by omega)) h1)
    exact hnx S' I' hL
  | succ c ih =>
    intro i S' I' hi hL
    obtain ⟨z1, z2, z3, z4, z5⟩ := id hL
    refine J_iload_n dX2_init_104 rfl ?_
    refine J_aload_n dX2_init_105 rfl rfl ?_
    refine J_getR dX2_init_106 flX2_19 rfl z2 z3.2.1 ?_
    refine J_alen (x := 6) dX2_init_109 z4.2.1 ⟨by decide, by decide⟩ rfl ?_
    refine J_icmp_ge (tgt := 132) dX2_init_110 (by decide) (fun h1 => absurd h1 (nI_ge (a := i) (b := 6) (by omega) (by decide))) (fun _ => ?_)
    refine J_aload_n dX2_init_113 rfl rfl ?_
    refine J_getR dX2_init_114 flX2_19 rfl z2 z3.2.1 ?_
    refine J_iload_n dX2_init_117 rfl ?_
    refine J_new (ci := 3) dX2_init_118 (by decide) jw_27 jw_90 jw_4 (by show 12 + i + 1 ≤ 18; omega) (by show 134 + 5 * i + 5 ≤ 164; omega) ?_
    refine J_dup dX2_init_121 rfl ?_
    refine J_cI0 (mc := mX3_init) dX2_init_122 mlX2_31 okX3_init (kX3_init _ _ _) (by decide) (by show 12 + i + 1 ≤ 18; omega) (by show 134 + 5 * i + 5 ≤ 164; omega) (Nat.le_of_ble_eq_true rfl) ?_
    refine J_aastore (t := 11) (N := 6) dX2_init_125 (jKd_old z4.2.1) (by decide) (by decide) (jKd_new S' 3 0) (vp_in_nI (n := i) (by omega) (by decide)) ?_
    refine J_iincv (y := 1) (v := nI (i + 1)) dX2_init_126 rfl rfl (by rw [← nI_1]) ?_
    refine J_goto (tgt := 104) dX2_init_129 (by decide) ?_
    rw [show (nI i).toNatClampNeg = i from nI_clamp (by omega)]
    exact ih (i + 1) _ _ (by omega) (l1X2_step hL (by omega))
/-- a House as its constructor leaves it -/
def jH0 (o : Nat) (S S' : jX) (I I' : jI) : Prop := S'.1 = o + 19 ∧ jHouse S' o ∧ jExt o S S' I I' ∧ I' o = I o ∧ (I' (o + 3) 0 = 120 ∧ I' (o + 3) 1 = 90 ∧ I' (o + 3) 2 = 8 ∧ I' (o + 3) 3 = 15) ∧ (∀ a, o + 1 ≤ a → a < o + 19 → a ≠ o + 3 → I' a = fun _ => 0)
set_option maxHeartbeats 2000000 in
theorem kX2_init (S : jX) (I : jI) (o : Nat) (hS : S.1 = o + 1) (hk : jKd S o 2 0) : jM (2, 18, 164) mX2_init [.ref o] S I (fun v S' I' => v = none ∧ jH0 o S S' I I') := by
  refine jM.of (ls := [.ref o, .long 0]) (by decide) (Nat.le_of_ble_eq_true rfl) (by intro v hv; simp only [List.mem_cons, List.not_mem_nil, or_false] at hv; rcases hv with rfl <;> rfl) rfl (fun G hR => ?_)
  refine h0X2 hS hk (fun S1 I1 h1 => ?_)
  refine J_eq (ls' := [.ref o, .int (nI 0)]) rfl rfl ?_
  refine l0X2 (S := S) (I := I) (o := o) (fun S2 I2 h2 => ?_) 8 0 S1 I1 rfl h1
  refine J_iconst 0 dX2_init_102 rfl ?_
  refine J_istore_n dX2_init_103 (Nat.le_of_ble_eq_true rfl) ?_
  refine J_eq (ls' := [.ref o, .int (nI 0)]) rfl rfl ?_
  refine l1X2 (S := S) (I := I) (o := o) (fun S3 I3 h3 => ?_) 6 0 S2 I2 rfl ?_
  · obtain ⟨z1, z2, z3, z4, z5, zi, z6, z7, z8, z9⟩ := h3
    refine J_vret hR dX2_init_132 rfl (Nat.le_refl 18) (Nat.le_refl 164) ⟨rfl, z1, ⟨z2, z3, z4, z5, zi⟩, z6, z7, z8, fun a q1 q2 q3 => z9 a q1 (by omega) q3⟩
  · obtain ⟨z1, z2, z3, z4, z5, z6, z7, z8, z9⟩ := h2
    exact ⟨z1, z2, z3, z4, z5, fun j hj => absurd hj (by omega), z6, z7, z8, z9⟩
