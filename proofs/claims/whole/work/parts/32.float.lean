set_option maxRecDepth 100000 in
theorem jwf_1 : Cond.methodLink RJxf58ca 74 ⟨"java/lang/Float", "floatToRawIntBits", "(F)I"⟩ ∈ jtw := jin 1007 (by decide +kernel) rfl
set_option maxRecDepth 100000 in
theorem jwf_2 : Cond.static ⟨"java/lang/Float", "floatToRawIntBits", "(F)I"⟩ ∈ jtw := jin 1008 (by decide +kernel) rfl
set_option maxRecDepth 100000 in
theorem jwf_3 : Cond.native ⟨"java/lang/Float", "floatToRawIntBits", "(F)I"⟩ ∈ jtw := jin 1009 (by decide +kernel) rfl
set_option maxRecDepth 100000 in
theorem jwf_4 : Cond.constantFloat RX2 214 1258291200 ∈ jtw := jin 619 (by decide +kernel) rfl
section JF
variable {G : jG} {d : Nat × Nat × Nat} {mt : jMt} {pc : Nat} {ls st : List Value} {S : jX} {I : jI} {k n : Nat}
theorem J_fload_n {kk : Fin 4} {x : UInt32} (hd : decode mt.2.1 pc = .ok (.fload_n kk, 1)) (hk : ls[(kk : Nat)]? = some (.float x)) (h : J G d mt (pc + 1) ls (.float x :: st) S I k n) : J G d mt pc ls (st) S I k n := by
  obtain ⟨⟨p, l, e, R, s, m⟩, ⟨args, below, meth, c⟩, w, Q⟩ := G
  intro hF H locs la hz hP hS hl
  obtain ⟨⟨hx, hb, hml, hown, hts⟩, hK, hsz, hlk, hnm, hfr, hbud, hrt⟩ := id hF
  exact lv_fload_n hx hb hd rfl (jl_at hl hk (by simp [Value.category])) (h hF H locs la hz hP hS hl)

theorem J_fstore_n {kk : Fin 4} {x : UInt32} (hd : decode mt.2.1 pc = .ok (.fstore_n kk, 1)) (hn : (kk : Nat) < mt.2.2.1) (h : J G d mt (pc + 1) (ls.set kk (.float x)) st S I k n) : J G d mt pc ls (.float x :: st) S I k n := by
  obtain ⟨⟨p, l, e, R, s, m⟩, ⟨args, below, meth, c⟩, w, Q⟩ := G
  intro hF H locs la hz hP hS hl
  obtain ⟨⟨hx, hb, hml, hown, hts⟩, hK, hsz, hlk, hnm, hfr, hbud, hrt⟩ := id hF
  exact lv_fstore_n hx hb hd rfl hl hn rfl (fun la hl => h hF H locs la hz hP hS (jl_set (v := .float x) hl (by simp [Value.category])))

theorem J_fconst0 (hd : decode mt.2.1 pc = .ok (.fconst 0, 1)) (h : J G d mt (pc + 1) ls (.float FP.fconst0 :: st) S I k n) : J G d mt pc ls (st) S I k n := by
  obtain ⟨⟨p, l, e, R, s, m⟩, ⟨args, below, meth, c⟩, w, Q⟩ := G
  intro hF H locs la hz hP hS hl
  obtain ⟨⟨hx, hb, hml, hown, hts⟩, hK, hsz, hlk, hnm, hfr, hbud, hrt⟩ := id hF
  exact lv_fconst0 hx hb hd (h hF H locs la hz hP hS hl)

theorem J_fconst1 (hd : decode mt.2.1 pc = .ok (.fconst 1, 1)) (h : J G d mt (pc + 1) ls (.float FP.fconst1 :: st) S I k n) : J G d mt pc ls (st) S I k n := by
  obtain ⟨⟨p, l, e, R, s, m⟩, ⟨args, below, meth, c⟩, w, Q⟩ := G
  intro hF H locs la hz hP hS hl
  obtain ⟨⟨hx, hb, hml, hown, hts⟩, hK, hsz, hlk, hnm, hfr, hbud, hrt⟩ := id hF
  exact lv_fconst1 hx hb hd (h hF H locs la hz hP hS hl)

theorem J_fconst2 (hd : decode mt.2.1 pc = .ok (.fconst 2, 1)) (h : J G d mt (pc + 1) ls (.float FP.fconst2 :: st) S I k n) : J G d mt pc ls (st) S I k n := by
  obtain ⟨⟨p, l, e, R, s, m⟩, ⟨args, below, meth, c⟩, w, Q⟩ := G
  intro hF H locs la hz hP hS hl
  obtain ⟨⟨hx, hb, hml, hown, hts⟩, hK, hsz, hlk, hnm, hfr, hbud, hrt⟩ := id hF
  exact lv_fconst2 hx hb hd (h hF H locs la hz hP hS hl)

theorem J_i2f {x : Int32} (hd : decode mt.2.1 pc = .ok (.i2f, 1)) (h : J G d mt (pc + 1) ls (.float (FP.i2f x) :: st) S I k n) : J G d mt pc ls (.int x :: st) S I k n := by
  obtain ⟨⟨p, l, e, R, s, m⟩, ⟨args, below, meth, c⟩, w, Q⟩ := G
  intro hF H locs la hz hP hS hl
  obtain ⟨⟨hx, hb, hml, hown, hts⟩, hK, hsz, hlk, hnm, hfr, hbud, hrt⟩ := id hF
  exact lv_i2f hx hb hd (h hF H locs la hz hP hS hl)

theorem J_f2i {x : UInt32} (hd : decode mt.2.1 pc = .ok (.f2i, 1)) (h : J G d mt (pc + 1) ls (.int (FP.f2i x) :: st) S I k n) : J G d mt pc ls (.float x :: st) S I k n := by
  obtain ⟨⟨p, l, e, R, s, m⟩, ⟨args, below, meth, c⟩, w, Q⟩ := G
  intro hF H locs la hz hP hS hl
  obtain ⟨⟨hx, hb, hml, hown, hts⟩, hK, hsz, hlk, hnm, hfr, hbud, hrt⟩ := id hF
  exact lv_f2i hx hb hd (h hF H locs la hz hP hS hl)

theorem J_fdiv {x y : UInt32} (hd : decode mt.2.1 pc = .ok (.fdiv, 1)) (hne : vf_n32 (FP.fdiv x y)) (h : J G d mt (pc + 1) ls (.float (FP.fdiv x y) :: st) S I k n) : J G d mt pc ls (.float y :: .float x :: st) S I k n := by
  obtain ⟨⟨p, l, e, R, s, m⟩, ⟨args, below, meth, c⟩, w, Q⟩ := G
  intro hF H locs la hz hP hS hl
  obtain ⟨⟨hx, hb, hml, hown, hts⟩, hK, hsz, hlk, hnm, hfr, hbud, hrt⟩ := id hF
  exact lv_fdiv hx hb hd hne (h hF H locs la hz hP hS hl)

theorem J_fmul {x y : UInt32} (hd : decode mt.2.1 pc = .ok (.fmul, 1)) (hne : vf_n32 (FP.fmul x y)) (h : J G d mt (pc + 1) ls (.float (FP.fmul x y) :: st) S I k n) : J G d mt pc ls (.float y :: .float x :: st) S I k n := by
  obtain ⟨⟨p, l, e, R, s, m⟩, ⟨args, below, meth, c⟩, w, Q⟩ := G
  intro hF H locs la hz hP hS hl
  obtain ⟨⟨hx, hb, hml, hown, hts⟩, hK, hsz, hlk, hnm, hfr, hbud, hrt⟩ := id hF
  exact lv_fmul hx hb hd hne (h hF H locs la hz hP hS hl)

theorem J_fsub {x y : UInt32} (hd : decode mt.2.1 pc = .ok (.fsub, 1)) (hne : vf_n32 (FP.fsub x y)) (h : J G d mt (pc + 1) ls (.float (FP.fsub x y) :: st) S I k n) : J G d mt pc ls (.float y :: .float x :: st) S I k n := by
  obtain ⟨⟨p, l, e, R, s, m⟩, ⟨args, below, meth, c⟩, w, Q⟩ := G
  intro hF H locs la hz hP hS hl
  obtain ⟨⟨hx, hb, hml, hown, hts⟩, hK, hsz, hlk, hnm, hfr, hbud, hrt⟩ := id hF
  exact lv_fsub hx hb hd hne (h hF H locs la hz hP hS hl)

theorem J_fcmp {x y : UInt32} {op : CmpOp} (hd : decode mt.2.1 pc = .ok (.fcmp op, 1)) (h : J G d mt (pc + 1) ls (.int (Op.cmpValue (FP.fcmp x y) op) :: st) S I k n) : J G d mt pc ls (.float y :: .float x :: st) S I k n := by
  obtain ⟨⟨p, l, e, R, s, m⟩, ⟨args, below, meth, c⟩, w, Q⟩ := G
  intro hF H locs la hz hP hS hl
  obtain ⟨⟨hx, hb, hml, hown, hts⟩, hK, hsz, hlk, hnm, hfr, hbud, hrt⟩ := id hF
  exact lv_fcmp hx hb hd (h hF H locs la hz hP hS hl)

theorem J_ldcf {ix : Nat} (x : UInt32) (hd : decode mt.2.1 pc = .ok (.ldc ix, 2)) (hw : Cond.constantFloat mt.1.cls ix x ∈ jtw) (h : J G d mt (pc + 2) ls (.float x :: st) S I k n) : J G d mt pc ls (st) S I k n := by
  obtain ⟨⟨p, l, e, R, s, m⟩, ⟨args, below, meth, c⟩, w, Q⟩ := G
  intro hF H locs la hz hP hS hl
  obtain ⟨⟨hx, hb, hml, hown, hts⟩, hK, hsz, hlk, hnm, hfr, hbud, hrt⟩ := id hF
  exact lv_ldcf hx hb hown (hts _ hw) hd (h hF H locs la hz hP hS hl)

theorem J_raw {ix : Nat} {x : UInt32} {rest : List Value} (hd : decode mt.2.1 pc = .ok (.invokestatic ix, 3)) (hL : Cond.methodLink mt.1.cls ix ⟨"java/lang/Float", "floatToRawIntBits", "(F)I"⟩ ∈ jtw) (hi : Cond.initialized RJxf58ca ∈ jtw) (hd1 : 1 ≤ d.1) (hlen : st.length ≤ 4) (h : J G d mt (pc + 3) ls (.int x.toInt32 :: st) S I k n) : J G d mt pc ls (.float x :: st) S I k n := by
  obtain ⟨⟨p, l, e, R, s, m⟩, ⟨args, below, meth, c⟩, w, Q⟩ := G
  intro hF H locs la hz hP hS hl
  obtain ⟨⟨hx, hb, hml, hown, hts⟩, hK, hsz, hlk, hnm, hfr, hbud, hrt⟩ := id hF
  have h8 := jroom w (m := m) (pc := pc) (la := la) (st := []) hlen
  exact vn_f2i hx hb (hml.trans hl.1.symm) hown (hts _ hL) (hts _ jwf_3) (hts _ jwf_2) (hts _ hi) (by omega) (by omega) hd (h hF H locs la hz hP hS hl)

end JF
theorem Met.ofWF {l : Launch} {y : MethodName} {ws ws' : List Cond} {rm : Room} {Pc : Array Value → State → Prop} {Qc : Array Value → State → Outcome → State → Prop} {mc ms : Nat} {free : Addr → Prop} {cc : ByteArray} {maxL : Nat} {ret : Option FieldType}
    (hy : plainFor y = true) (hw : ws = Cond.code y cc maxL ret :: ws')
    (body : ∀ p e s m args below meth c s₁, BodyLoose p l y (headSpec ws rm) cc maxL ret e s m args below meth c s₁ → c.maxLocals = maxL → Pc args s →
      W p l e (headSpec ws rm).room s m args below meth c s.heap [] 0 0 (MQ below Qc args s mc ms free) (entryFrame m args maxL)) : Met l y ws rm Pc Qc mc ms free := by
  refine MetFree.of_bodySF (code := cc) (maxLocals := maxL) (ret := ret) hy ?_ ?_
  · intro args s m h hn
    obtain ⟨meth, c, h1, h2, h3, h4, h5, h6, -, -⟩ := Cond.code_spec hn (atoms_spec (ws := ws) h _ (by rw [hw]; exact List.mem_cons_self))
    exact ⟨meth, c, h1, h2, h3, h4, h5, h6⟩
  · intro p e s m args below meth c s₁ B hml hP _
    have hh0 : s₁.heap = s.heap := by rw [B.state]; rfl
    obtain ⟨t, a1, o, b1, b2, b3⟩ := body p e s m args below meth c s₁ B hml hP s₁ hh0 (Stand.of_body B)
    exact ⟨t, o, a1, b1, b2, ⟨b3.1, b3.2⟩⟩
theorem jM.ofF {d : Nat × Nat × Nat} {mt : jMt} {as ls : List Value} {S : jX} {I : jI} {Φ : Option Value → jX → jI → Prop} (hy : plainFor mt.1 = true) (hn : as.length ≤ mt.2.2.1) (hcat : ∀ v ∈ as, v.category = 1) (hls : as ++ List.replicate (mt.2.2.1 - as.length) (.long 0) = ls)
    (h : ∀ G : jG, jR G d Φ → J G d mt 0 ls [] S I 0 0) : jM d mt as S I Φ := by
  intro l w
  refine Met.ofWF (cc := mt.2.1) (maxL := mt.2.2.1) (ret := mt.2.2.2) hy rfl ?_
  intro p e s m args below meth c s₁ B hml hv
  obtain ⟨rfl, hsz, hP, hK⟩ := hv
  have hlen : (lg_sl (as.map (jv w))).length = as.length := by
    have : ∀ (xs : List Value), (∀ v ∈ xs, v.category = 1) → (lg_sl (xs.map (jv w))).length = xs.length := by
      intro xs
      induction xs with
      | nil => intro _; rfl
      | cons v xs ih =>
        intro hx
        have h1 : ¬ (jv w v).category = 2 := by rw [jv_cat, hx v List.mem_cons_self]; decide
        have h2 := ih (fun u hu => hx u (List.mem_cons_of_mem _ hu))
        simp only [lg_sl, List.map_cons, List.flatMap_cons, if_neg h1, List.length_append, List.length_cons, List.length_nil] at h2 ⊢
        omega
    exact this as hcat
  have hl := lv_entry (as.map (jv w)) (n := mt.2.2.1) (by rw [hlen]; exact hn)
  rw [lg_entry_eq]
  generalize (lg_sl (as.map (jv w)) ++ List.replicate (mt.2.2.1 - (lg_sl (as.map (jv w))).length) Slot.unset).toArray = la at hl ⊢
  rw [← jl_entry w as 0 (mt.2.2.1 - as.length) hcat, hls] at hl
  exact h ((p, l, e, _, s, m), (_, below, meth, c), w, _) rfl ⟨⟨B.exec, B.bytes, hml, findClass_of_methodNamed B.named, fun x hx => atoms_spec (ws := Cond.code mt.1 mt.2.1 mt.2.2.1 mt.2.2.2 :: jtw) B.pre _ (List.mem_cons_of_mem _ hx)⟩, hK, by rw [hsz]; omega, B.notSynchronized, (name_of_methodNamed B.named B.method).1, ⟨Nat.le_refl _, Nat.le_refl _⟩, ⟨Nat.le_refl _, Nat.le_refl _⟩, B.returns⟩ s.heap [] la hsz hP va_S.rf hl
set_option maxHeartbeats 4000000 in
/-- isNaN of what is none -/
theorem kJxf58ca_isNaN_12338 (S : jX) (I : jI) (x : UInt32) (hx : Op.cmpValue (FP.fcmp x x) CmpOp.l = 0) : jM (0, 0, 0) mJxf58ca_isNaN_12338 [.float x] S I (jRes (some (.int 0)) S I) := by
  refine jM.ofF (ls := [.float x]) (by decide +kernel) (Nat.le_of_ble_eq_true rfl) (by intro v hv; simp only [List.mem_cons, List.not_mem_nil, or_false] at hv; rcases hv with rfl <;> rfl) rfl (fun G hR => ?_)
  refine J_fload_n dJxf58ca_isNaN_12338_0 rfl ?_
  refine J_fload_n dJxf58ca_isNaN_12338_1 rfl ?_
  refine J_fcmp dJxf58ca_isNaN_12338_2 ?_
  refine J_if_eq (tgt := 10) dJxf58ca_isNaN_12338_3 (by decide) (fun h1 => ?_) (fun h1 => absurd hx h1)
  refine J_iconst 0 dJxf58ca_isNaN_12338_10 rfl ?_
  exact J_iret (ty := .boolean) hR dJxf58ca_isNaN_12338_11 rfl rfl (Nat.le_of_ble_eq_true rfl) (Nat.le_of_ble_eq_true rfl) ⟨rfl, rfl, rfl⟩
set_option maxHeartbeats 4000000 in
theorem kJxf58ca_floatToIntBits_5c35a (S : jX) (I : jI) (x : UInt32) (hx : Op.cmpValue (FP.fcmp x x) CmpOp.l = 0) : jM (1, 0, 0) mJxf58ca_floatToIntBits_5c35a [.float x] S I (jRes (some (.int x.toInt32)) S I) := by
  refine jM.ofF (ls := [.float x]) (by decide +kernel) (Nat.le_of_ble_eq_true rfl) (by intro v hv; simp only [List.mem_cons, List.not_mem_nil, or_false] at hv; rcases hv with rfl <;> rfl) rfl (fun G hR => ?_)
  refine J_fload_n dJxf58ca_floatToIntBits_5c35a_0 rfl ?_
  refine J_cS1r (mc := mJxf58ca_isNaN_12338) dJxf58ca_floatToIntBits_5c35a_1 mlJxf58ca_59 okJxf58ca_isNaN_12338 (kJxf58ca_isNaN_12338 S I x hx) (Nat.le_of_ble_eq_true rfl) (Nat.le_of_ble_eq_true rfl) (Nat.le_of_ble_eq_true rfl) (Nat.le_of_ble_eq_true rfl) ?_
  refine J_if_ne (tgt := 12) dJxf58ca_floatToIntBits_5c35a_4 (by decide) (fun h1 => absurd rfl h1) (fun h1 => ?_)
  refine J_fload_n dJxf58ca_floatToIntBits_5c35a_7 rfl ?_
  refine J_raw (rest := []) dJxf58ca_floatToIntBits_5c35a_8 jwf_1 jw_10 (Nat.le_of_ble_eq_true rfl) (Nat.le_of_ble_eq_true rfl) ?_
  exact J_iret (ty := .int) hR dJxf58ca_floatToIntBits_5c35a_11 rfl rfl (Nat.le_of_ble_eq_true rfl) (Nat.le_of_ble_eq_true rfl) ⟨rfl, rfl, rfl⟩
/-- the class's own bits of a share; none where a NaN would come in between -/
def bFin (fr : UInt32) (ex : Int32) : Option Int32 :=
  if FP.fsub fr FP.fconst1 &&& 0x7fffffff ≤ 0x7f800000 then (if FP.fmul (FP.fsub fr FP.fconst1) 1258291200 &&& 0x7fffffff ≤ 0x7f800000 then some ((ex <<< (23 &&& 31)) + FP.f2i (FP.fmul (FP.fsub fr FP.fconst1) 1258291200)) else none) else none
def bLoop : Nat → UInt32 → Int32 → Option Int32
  | 0, fr, ex => bFin fr ex
  | n + 1, fr, ex => if 0 ≤ Op.cmpValue (FP.fcmp fr FP.fconst1) CmpOp.g then bFin fr ex
    else if FP.fmul fr FP.fconst2 &&& 0x7fffffff ≤ 0x7f800000 then bLoop n (FP.fmul fr FP.fconst2) (ex + (-1)) else none
def bBits (x : UInt32) : Option Int32 := if 0 < Op.cmpValue (FP.fcmp x FP.fconst0) CmpOp.g then bLoop 126 x 127 else some 0
set_option maxHeartbeats 4000000 in
theorem b40 {S : jX} {I : jI} {x fr : UInt32} {ex i r : Int32} {G : jG} {Φ : Option Value → jX → jI → Prop} (hR : jR G (0, 0, 0) Φ) (hb : bFin fr ex = some r) (hΦ : Φ (some (.int r)) S I) : J G (0, 0, 0) mX2_bitsOfShare 40 [.float x, .float fr, .int ex, .int i] [] S I 0 0 := by
  unfold bFin at hb
  by_cases h1 : FP.fsub fr FP.fconst1 &&& 0x7fffffff ≤ 0x7f800000
  · rw [if_pos h1] at hb
    by_cases h2 : FP.fmul (FP.fsub fr FP.fconst1) 1258291200 &&& 0x7fffffff ≤ 0x7f800000
    · rw [if_pos h2] at hb
      cases hb
      refine J_iload_n dX2_bitsOfShare_40 rfl ?_
      refine J_bipush 23 dX2_bitsOfShare_41 rfl ?_
      refine J_ishl dX2_bitsOfShare_43 ?_
      refine J_fload_n dX2_bitsOfShare_44 rfl ?_
      refine J_fconst1 dX2_bitsOfShare_45 ?_
      refine J_fsub dX2_bitsOfShare_46 h1 ?_
      refine J_ldcf 1258291200 dX2_bitsOfShare_47 jwf_4 ?_
      refine J_fmul dX2_bitsOfShare_49 h2 ?_
      refine J_f2i dX2_bitsOfShare_50 ?_
      refine J_iadd dX2_bitsOfShare_51 ?_
      exact J_iret (ty := .int) hR dX2_bitsOfShare_52 rfl rfl (Nat.le_of_ble_eq_true rfl) (Nat.le_of_ble_eq_true rfl) hΦ
    · rw [if_neg h2] at hb; cases hb
  · rw [if_neg h1] at hb; cases hb
set_option maxHeartbeats 4000000 in
theorem b15 {S : jX} {I : jI} {x : UInt32} {r : Int32} {G : jG} {Φ : Option Value → jX → jI → Prop} (hR : jR G (0, 0, 0) Φ) (hΦ : Φ (some (.int r)) S I) : ∀ (c i : Nat) (fr : UInt32) (ex : Int32), i + c = 126 → bLoop c fr ex = some r → J G (0, 0, 0) mX2_bitsOfShare 15 [.float x, .float fr, .int ex, .int (nI i)] [] S I 0 0 := by
  intro c
  induction c with
  | zero =>
    intro i fr ex hi hb
    refine J_iload_n dX2_bitsOfShare_15 rfl ?_
    refine J_bipush 126 dX2_bitsOfShare_16 rfl ?_
    refine J_icmp_ge (tgt := 40) dX2_bitsOfShare_18 (by decide) (fun h1 => b40 hR hb hΦ) (fun h1 => ?_)
    exact absurd (nI_le (a := 126) (b := i) (by omega) (by omega)) h1
  | succ c ih =>
    intro i fr ex hi hb
    refine J_iload_n dX2_bitsOfShare_15 rfl ?_
    refine J_bipush 126 dX2_bitsOfShare_16 rfl ?_
    refine J_icmp_ge (tgt := 40) dX2_bitsOfShare_18 (by decide) (fun h1 => absurd h1 (nI_ge (a := i) (b := 126) (by omega) (by decide))) (fun h1 => ?_)
    refine J_fload_n dX2_bitsOfShare_21 rfl ?_
    refine J_fconst1 dX2_bitsOfShare_22 ?_
    refine J_fcmp dX2_bitsOfShare_23 ?_
    unfold bLoop at hb
    refine J_if_ge (tgt := 40) dX2_bitsOfShare_24 (by decide) (fun h2 => ?_) (fun h2 => ?_)
    · rw [if_pos h2] at hb
      exact b40 hR hb hΦ
    · rw [if_neg h2] at hb
      by_cases h3 : FP.fmul fr FP.fconst2 &&& 0x7fffffff ≤ 0x7f800000
      · rw [if_pos h3] at hb
        refine J_fload_n dX2_bitsOfShare_27 rfl ?_
        refine J_fconst2 dX2_bitsOfShare_28 ?_
        refine J_fmul dX2_bitsOfShare_29 h3 ?_
        refine J_fstore_n dX2_bitsOfShare_30 (Nat.le_of_ble_eq_true rfl) ?_
        refine J_iinc (y := (-1)) dX2_bitsOfShare_31 rfl rfl ?_
        refine J_iinc (y := 1) dX2_bitsOfShare_34 rfl rfl ?_
        refine J_goto (tgt := 15) dX2_bitsOfShare_37 (by decide) ?_
        refine J_eq (ls' := [.float x, .float (FP.fmul fr FP.fconst2), .int (ex + (-1)), .int (nI (i + 1))]) (by rw [← nI_1]; rfl) rfl (ih (i + 1) _ _ (by omega) hb)
      · rw [if_neg h3] at hb; cases hb
set_option maxHeartbeats 4000000 in
theorem kX2_bitsOfShare (S : jX) (I : jI) (x : UInt32) (r : Int32) (hb : bBits x = some r) : jM (0, 0, 0) mX2_bitsOfShare [.float x] S I (jRes (some (.int r)) S I) := by
  refine jM.of (ls := [.float x, .long 0, .long 0, .long 0]) (by decide) (Nat.le_of_ble_eq_true rfl) (by intro v hv; simp only [List.mem_cons, List.not_mem_nil, or_false] at hv; rcases hv with rfl <;> rfl) rfl (fun G hR => ?_)
  unfold bBits at hb
  refine J_fload_n dX2_bitsOfShare_0 rfl ?_
  refine J_fconst0 dX2_bitsOfShare_1 ?_
  refine J_fcmp dX2_bitsOfShare_2 ?_
  refine J_if_gt (tgt := 8) dX2_bitsOfShare_3 (by decide) (fun h1 => ?_) (fun h1 => ?_)
  · rw [if_pos h1] at hb
    refine J_fload_n dX2_bitsOfShare_8 rfl ?_
    refine J_fstore_n dX2_bitsOfShare_9 (Nat.le_of_ble_eq_true rfl) ?_
    refine J_bipush 127 dX2_bitsOfShare_10 rfl ?_
    refine J_istore_n dX2_bitsOfShare_12 (Nat.le_of_ble_eq_true rfl) ?_
    refine J_iconst 0 dX2_bitsOfShare_13 rfl ?_
    refine J_istore_n dX2_bitsOfShare_14 (Nat.le_of_ble_eq_true rfl) ?_
    exact b15 hR ⟨rfl, rfl, rfl⟩ 126 0 x 127 (by omega) hb
  · rw [if_neg h1] at hb
    cases hb
    refine J_iconst 0 dX2_bitsOfShare_6 rfl ?_
    exact J_iret (ty := .int) hR dX2_bitsOfShare_7 rfl rfl (Nat.le_of_ble_eq_true rfl) (Nat.le_of_ble_eq_true rfl) ⟨rfl, rfl, rfl⟩
/-- what both sides say of a share: the strength by what it is built for -/
def shBits (a b : Int32) : UInt32 := FP.fdiv (FP.i2f a) (FP.i2f b)
def shOK (a b : Int32) : Bool := (shBits a b &&& 0x7fffffff ≤ 0x7f800000) && (Op.cmpValue (FP.fcmp (shBits a b) (shBits a b)) CmpOp.l == 0) && (bBits (shBits a b) == some (shBits a b).toInt32)
def fX2_shareOfStrength (I : jI) (o : Nat) (x : Int32) : Int32 := match fX2_boilerAt I o x with
  | none => (-2000000001)
  | some b => if 1 ≤ I b 0 then (shBits (fX0_strength I b) (I b 0)).toInt32 else (-2000000001)
set_option maxRecDepth 100000 in
set_option maxHeartbeats 4000000 in
theorem kX2_shareOfStrength (S : jX) (I : jI) (o : Nat) (x : Int32) (hH : jHouse S o) (hs : ∀ b, fX2_boilerAt I o x = some b → 1 ≤ I b 0 → shOK (fX0_strength I b) (I b 0) = true) : jM (2, 0, 0) mX2_shareOfStrength [.ref o, .int x] S I (jRes (some (.int (fX2_shareOfStrength I o x))) S I) := by
  refine jM.of (ls := [.ref o, .int x, .long 0]) (by decide) (Nat.le_of_ble_eq_true rfl) (by intro v hv; simp only [List.mem_cons, List.not_mem_nil, or_false] at hv; rcases hv with rfl | rfl <;> rfl) rfl (fun G hR => ?_)
  refine J_aload_n dX2_shareOfStrength_0 rfl rfl ?_
  refine J_iload_n dX2_shareOfStrength_1 rfl ?_
  refine J_cV1r (mc := mX2_boilerAt) hH.1 (by decide) rfl dX2_shareOfStrength_2 mlX2_52 okX2_boilerAt (kX2_boilerAt S I o x hH) (Nat.le_of_ble_eq_true rfl) (Nat.le_of_ble_eq_true rfl) (Nat.le_of_ble_eq_true rfl) (Nat.le_of_ble_eq_true rfl) ?_
  rcases h1 : (fX2_boilerAt I o x) with _ | b2
  · skip
    refine J_astore_n dX2_shareOfStrength_5 (Nat.le_of_ble_eq_true rfl) rfl ?_
    refine J_aload_n dX2_shareOfStrength_6 rfl rfl ?_
    refine J_ifnull_n (tgt := 18) dX2_shareOfStrength_7 (by decide) ?_
    refine J_ldc (-2000000001) dX2_shareOfStrength_18 jw_262 ?_
    exact J_iret (ty := .int) hR dX2_shareOfStrength_20 rfl rfl (Nat.le_of_ble_eq_true rfl) (Nat.le_of_ble_eq_true rfl) (jRes_i (by first | (simp only [fX2_shareOfStrength, h1]; done) | rfl | (simp only [fX2_shareOfStrength, h1]; rfl)) rfl)
  · skip
    refine J_astore_n dX2_shareOfStrength_5 (Nat.le_of_ble_eq_true rfl) rfl ?_
    refine J_aload_n dX2_shareOfStrength_6 rfl rfl ?_
    refine J_ifnull_r dX2_shareOfStrength_7 ?_
    refine J_aload_n dX2_shareOfStrength_10 rfl rfl ?_
    refine J_getI dX2_shareOfStrength_11 flX2_80 rfl (kdBoilerAt hH h1) ?_
    refine J_iconst (1) dX2_shareOfStrength_14 rfl ?_
    refine J_icmp_ge (tgt := 21) dX2_shareOfStrength_15 (by decide) (fun h3 => ?_) (fun h3 => ?_)
    · skip
      have hs1 := hs _ h1 h3
      unfold shOK at hs1
      simp only [Bool.and_eq_true, beq_iff_eq, decide_eq_true_eq] at hs1
      refine J_aload_n dX2_shareOfStrength_21 rfl rfl ?_
      refine J_cV0r (mc := mX0_strength) (kdBoilerAt hH h1) (by decide) rfl dX2_shareOfStrength_22 mlX2_199 okX0_strength (kX0_strength S I b2 (kdBoilerAt hH h1)) (Nat.le_of_ble_eq_true rfl) (Nat.le_of_ble_eq_true rfl) (Nat.le_of_ble_eq_true rfl) (Nat.le_of_ble_eq_true rfl) ?_
      refine J_i2f dX2_shareOfStrength_25 ?_
      refine J_aload_n dX2_shareOfStrength_26 rfl rfl ?_
      refine J_getI dX2_shareOfStrength_27 flX2_80 rfl (kdBoilerAt hH h1) ?_
      refine J_i2f dX2_shareOfStrength_30 ?_
      refine J_fdiv dX2_shareOfStrength_31 hs1.1.1 ?_
      refine J_cS1r (mc := mX2_bitsOfShare) dX2_shareOfStrength_32 mlX2_210 okX2_bitsOfShare (kX2_bitsOfShare S I _ _ hs1.2) (Nat.le_of_ble_eq_true rfl) (Nat.le_of_ble_eq_true rfl) (Nat.le_of_ble_eq_true rfl) (Nat.le_of_ble_eq_true rfl) ?_
      exact J_iret (ty := .int) hR dX2_shareOfStrength_35 rfl rfl (Nat.le_of_ble_eq_true rfl) (Nat.le_of_ble_eq_true rfl) (jRes_i (by simp only [fX2_shareOfStrength, h1, if_pos h3]) rfl)
    · skip
      refine J_ldc (-2000000001) dX2_shareOfStrength_18 jw_262 ?_
      exact J_iret (ty := .int) hR dX2_shareOfStrength_20 rfl rfl (Nat.le_of_ble_eq_true rfl) (Nat.le_of_ble_eq_true rfl) (jRes_i (by first | (simp only [fX2_shareOfStrength, h1, if_neg h3]; done) | rfl | (simp only [fX2_shareOfStrength, h1, if_neg h3]; rfl)) rfl)
def fX7_share (I : jI) (o : Nat) (x : Int32) : Int32 := if fX7_isBoiler I o x = 0 then (-2000000001) else (shBits (fX7_strength I o x) (fX7_of I o x 0)).toInt32
set_option maxRecDepth 100000 in
set_option maxHeartbeats 4000000 in
theorem kX7_share (S : jX) (I : jI) (o : Nat) (x : Int32) (hM : jModel S o) (hI : jMInv I o) (hs : ¬ fX7_isBoiler I o x = 0 → shOK (fX7_strength I o x) (fX7_of I o x 0) = true) : jM (2, 0, 0) mX7_share [.ref o, .int x] S I (jRes (some (.int (fX7_share I o x))) S I) := by
  refine jM.of (ls := [.ref o, .int x, .long 0, .long 0]) (by decide) (Nat.le_of_ble_eq_true rfl) (by intro v hv; simp only [List.mem_cons, List.not_mem_nil, or_false] at hv; rcases hv with rfl | rfl <;> rfl) rfl (fun G hR => ?_)
  refine J_aload_n dX7_share_0 rfl rfl ?_
  refine J_iload_n dX7_share_1 rfl ?_
  refine J_cV1r (mc := mX7_isBoiler) hM.1 (by decide) rfl dX7_share_2 mlX7_67 okX7_isBoiler (kX7_isBoiler S I o x hM) (Nat.le_of_ble_eq_true rfl) (Nat.le_of_ble_eq_true rfl) (Nat.le_of_ble_eq_true rfl) (Nat.le_of_ble_eq_true rfl) ?_
  refine J_if_ne (tgt := 11) dX7_share_5 (by decide) (fun h1 => ?_) (fun h1 => ?_)
  · skip
    have hs1 := hs h1
    unfold shOK at hs1
    simp only [Bool.and_eq_true, beq_iff_eq, decide_eq_true_eq] at hs1
    have hb := jisB hI h1
    refine J_aload_n dX7_share_11 rfl rfl ?_
    refine J_iload_n dX7_share_12 rfl ?_
    refine J_cV1r (mc := mX7_strength) hM.1 (by decide) rfl dX7_share_13 mlX7_38 okX7_strength (kX7_strength S I o x hM hb) (Nat.le_of_ble_eq_true rfl) (Nat.le_of_ble_eq_true rfl) (Nat.le_of_ble_eq_true rfl) (Nat.le_of_ble_eq_true rfl) ?_
    refine J_i2f dX7_share_16 ?_
    refine J_fstore_n dX7_share_17 (Nat.le_of_ble_eq_true rfl) ?_
    refine J_aload_n dX7_share_18 rfl rfl ?_
    refine J_iload_n dX7_share_19 rfl ?_
    refine J_iconst 0 dX7_share_20 rfl ?_
    refine J_cV2r (mc := mX7_of) hM.1 (by decide) rfl dX7_share_21 mlX7_34 okX7_of (kX7_of S I o x 0 hM (jofv hb (k := 0) rfl (by decide))) (Nat.le_of_ble_eq_true rfl) (Nat.le_of_ble_eq_true rfl) (Nat.le_of_ble_eq_true rfl) (Nat.le_of_ble_eq_true rfl) ?_
    refine J_i2f dX7_share_24 ?_
    refine J_fstore_n dX7_share_25 (Nat.le_of_ble_eq_true rfl) ?_
    refine J_fload_n dX7_share_26 rfl ?_
    refine J_fload_n dX7_share_27 rfl ?_
    refine J_fdiv dX7_share_28 hs1.1.1 ?_
    refine J_cS1r (mc := mJxf58ca_floatToIntBits_5c35a) dX7_share_29 mlX7_126 okJxf58ca_floatToIntBits_5c35a (kJxf58ca_floatToIntBits_5c35a S I _ hs1.1.2) (Nat.le_of_ble_eq_true rfl) (Nat.le_of_ble_eq_true rfl) (Nat.le_of_ble_eq_true rfl) (Nat.le_of_ble_eq_true rfl) ?_
    exact J_iret (ty := .int) hR dX7_share_32 rfl rfl (Nat.le_of_ble_eq_true rfl) (Nat.le_of_ble_eq_true rfl) (jRes_i (by simp only [fX7_share, if_neg h1]; rfl) rfl)
  · skip
    refine J_ldc (-2000000001) dX7_share_8 jw_760 ?_
    exact J_iret (ty := .int) hR dX7_share_10 rfl rfl (Nat.le_of_ble_eq_true rfl) (Nat.le_of_ble_eq_true rfl) (jRes_i (by first | (simp only [fX7_share, if_pos h1]; done) | rfl | (simp only [fX7_share, if_pos h1]; rfl)) rfl)
set_option maxRecDepth 100000 in
set_option maxHeartbeats 4000000 in
theorem kX6_share (S : jX) (I : jI) (x : Int32) (hP : jTop S) (hs : ∀ b, fX2_boilerAt I 1 x = some b → 1 ≤ I b 0 → shOK (fX0_strength I b) (I b 0) = true) : jM (3, 0, 0) mX6_share [.ref 0, .int x] S I (jRes (some (.int (fX2_shareOfStrength I 1 x))) S I) := by
  refine jM.of (ls := [.ref 0, .int x]) (by decide) (Nat.le_of_ble_eq_true rfl) (by intro v hv; simp only [List.mem_cons, List.not_mem_nil, or_false] at hv; rcases hv with rfl | rfl <;> rfl) rfl (fun G hR => ?_)
  refine J_aload_n dX6_share_0 rfl rfl ?_
  refine J_getR dX6_share_1 flX6_10 rfl hP.1 hP.2.1.1 ?_
  refine J_iload_n dX6_share_4 rfl ?_
  refine J_cV1r (mc := mX2_shareOfStrength) hP.2.2.1.1 (by decide) rfl dX6_share_5 mlX6_110 okX2_shareOfStrength (kX2_shareOfStrength S I 1 x hP.2.2.1 hs) (Nat.le_of_ble_eq_true rfl) (Nat.le_of_ble_eq_true rfl) (Nat.le_of_ble_eq_true rfl) (Nat.le_of_ble_eq_true rfl) ?_
  exact J_iret (ty := .int) hR dX6_share_8 rfl rfl (Nat.le_of_ble_eq_true rfl) (Nat.le_of_ble_eq_true rfl) ⟨rfl, rfl, rfl⟩
