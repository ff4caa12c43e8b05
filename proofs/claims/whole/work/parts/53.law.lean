/-! THE LAW: its end and its entry (the printed skeleton), and its own instructions -/
def R_law : String := "BoilerPapersLaw"
def lw_P (b : Addr) (xs : List Int32) (args : Array Value) (s : State) : Prop := args = #[.ref b] ∧ s.IntsAt b xs ∧ xs.length ≤ 2048 ∧ (Jvm.Cond.and given_1 narrow_1).before args s = true
/-- what a walk over the start with the record d0 says of its end, said of the start itself -/
theorem lw_closed {s t : State} {o : Outcome} {d0 : Drawn} {L : List Loc} {k n : Nat} (hd0 : s.drawn.sameBut d0 lw_cs) (hv : ∃ v, o = .returned v) (hW : (s.setDrawn d0).WarmedH t.vm) (hs : (s.setDrawn d0).sameButNew ({ t with vm := s.vm } : State) L k n) : State.butDraws s t lw_cs (fun t1 => Framed s o t1 L k n) := by
  have h2 : t.drawn = d0 := congrArg State.drawn hs.1
  refine ⟨⟨hv, hW, State.sameButNew.setDrawn hs s.drawn⟩, ?_, by decide⟩
  rw [h2]
  exact hd0
def lw_Q (_ : Array Value) (s : State) (o : Outcome) (t : State) : Prop := o = .returned (some (.int 1)) ∧ State.butDraws s t lw_cs (fun t1 => Framed s o t1 [] 600000 7302249)
def lw_Z (below : List Frame) (a : Array Value) (s : State) : State → Prop := fun t => ∃ o, t.status = .running ∧ Ended t below o ∧ lw_Q a s o t
/-- the law's own end, with 1 on the stack, nothing written that was there before, its room as the claim has it; d0: the record of draws at this point (at the entry s.drawn: begin with 'refine W.base ?_' and 'have hd0 := Drawn.sameBut.refl s.drawn lw_cs') -/
theorem lw_ret {p : Program} {l : Launch} {e : Env} {s : State} {m : MethodId} {below : List Frame} {meth : Method} {c : Code} {b : Nat} {d0 : Drawn} (hd0 : s.drawn.sameBut d0 lw_cs) (hx : p.tables.exec = Jvm.exec) (hb : c.code = code) (hr : meth.sig.returnType = ret) (hlocks : meth.locks = false) {pc : Nat} {H : Heap} {ls : Array Slot} (hdg : decode code pc = .ok (.ireturn, 1)) : W p l e room_1 (s.setDrawn d0) m #[Value.ref b] below meth c H [] 600000 7302249 (lw_Z below #[Value.ref b] s) (F0 m pc ls [.int 1]) := by
  intro T hT X
  obtain ⟨fs, hret, hrun, hended, hW, hframe⟩ := X.leave (v := some (.int 1)) (hlocks := hlocks) (fun h => by rw [hr] at h; cases h)
  have hmeth' : T.vm.method? m = some meth := X.method'
  refine ⟨T.setFrames fs, ?_, .returned (some (.int 1)), hrun, hended, rfl, lw_closed hd0 ⟨_, rfl⟩ hW hframe⟩
  jvm_step X.here [X.here.top, hx, hb, hdg, hmeth', hr, ret, narrow_b1]
  (try refine ⟨rfl, ?_⟩); (try refine ⟨rfl, ?_⟩)
  first | (intro acts; rw [hret _ acts rfl rfl rfl]) | rw [hret _ _ rfl rfl rfl]
  exact Steps.refl _
/-- what holds at the law's entry: the machine, the code, the tables' words (any of lw_tbl by 'hts w (by decide +kernel)'), the script of L ints xs at the cell b, what the Statement gives of the start (any of its parts by flat_of_before) -/
def lw_At (p : Program) (s : State) (m : MethodId) (meth : Method) (c : Code) (b L : Nat) (xs : Nat → Int32) : Prop :=
  p.tables.exec = Jvm.exec ∧ c.code = code ∧ meth.sig.returnType = ret ∧ c.maxLocals = 4 ∧ s.vm.findClass R_law = some m.cls ∧ (∀ w ∈ lw_tbl, w.before #[Value.ref b] s = true) ∧ va_X b L xs s s.heap ∧ b < s.heap.size ∧ meth.locks = false ∧ (Jvm.Cond.and given_1 narrow_1).before #[Value.ref b] s = true

/-- the law's method -/
abbrev mLaw (nm : String) : jMt := (⟨RL, nm, "([I)Z"⟩, cL_law, 4, ret)
abbrev dLaw : Nat × Nat × Nat := (10, 600000, 7302249)
abbrev lsLaw (i : Nat) : List Value := [.retAddr 1, .ref 0, .ref 120, .int (nI i)]
/-- what is fixed while the law runs -/
def jLaw (G : jG) (b L : Nat) (xs : Nat → Int32) : Prop :=
  match G with
  | ((p, l, e, R, s, m), (args, below, meth, c), w, Q) => (R = room_1 ∧ args = #[Value.ref b] ∧ Q = lw_Z below #[Value.ref b] s) ∧ w.1 = s.heap.size ∧ w.2.1 1 = b ∧ va_X b L xs s s.heap ∧ b < s.heap.size
section JL
variable {G : jG} {d : Nat × Nat × Nat} {mt : jMt} {pc : Nat} {ls st : List Value} {S : jX} {I : jI} {k n b L : Nat} {xs : Nat → Int32}
theorem J_xlen (hX : jLaw G b L xs) (hd : decode mt.2.1 pc = .ok (.arraylength, 1)) (h : J G d mt (pc + 1) ls (.int (Int32.ofNat L) :: st) S I k n) : J G d mt pc ls (.retAddr 1 :: st) S I k n := by
  obtain ⟨⟨p, l, e, R, s, m⟩, ⟨args, below, meth, c⟩, w, Q⟩ := G
  intro hF H locs la hz hP hS hl
  obtain ⟨⟨hx, hb, hml, hown, hts⟩, hK, hsz, hlk, hnm, hfr, hbud, hrt⟩ := id hF
  obtain ⟨-, h1, h2, h3, h4⟩ := hX
  subst h2
  exact va_slen hx hb h3 h4 (by show ¬ w.1 ≤ w.2.1 1; omega) hS hd (h hF H locs la hz hP hS hl)
theorem J_xld (hX : jLaw G b L xs) {i : Int32} (hi : vp_in i L) (hd : decode mt.2.1 pc = .ok (.iaload, 1)) (h : J G d mt (pc + 1) ls (.int (xs i.toNatClampNeg) :: st) S I k n) : J G d mt pc ls (.int i :: .retAddr 1 :: st) S I k n := by
  obtain ⟨⟨p, l, e, R, s, m⟩, ⟨args, below, meth, c⟩, w, Q⟩ := G
  intro hF H locs la hz hP hS hl
  obtain ⟨⟨hx, hb, hml, hown, hts⟩, hK, hsz, hlk, hnm, hfr, hbud, hrt⟩ := id hF
  obtain ⟨-, h1, h2, h3, h4⟩ := hX
  subst h2
  exact va_sld hx hb h3 h4 (by show ¬ w.1 ≤ w.2.1 1; omega) hS hi hd (h hF H locs la hz hP hS hl)
theorem J_lend (hX : jLaw G b L xs) {nm : String} (hd : decode cL_law pc = .ok (.ireturn, 1)) (hk : k ≤ 600000) (hn : n ≤ 7302249) : J G d (mLaw nm) pc ls [.int 1] S I k n := by
  obtain ⟨⟨p, l, e, R, s, m⟩, ⟨args, below, meth, c⟩, w, Q⟩ := G
  intro hF H locs la hz hP hS hl
  obtain ⟨⟨hx, hb, hml, hown, hts⟩, hK, hsz, hlk, hnm, hfr, hbud, hrt⟩ := id hF
  obtain ⟨⟨r1, r2, r3⟩, h1, h2, h3, h4⟩ := hX
  subst r1
  subst r2
  subst r3
  refine va_forget (fun q hq => ?_) ?_
  · rw [← h1]; exact hS.2.2 q hq
  · refine W.widen (k := 600000) (n := 7302249) hk hn ?_
    exact lw_ret (d0 := s.drawn) (Drawn.sameBut.refl s.drawn lw_cs) hx hb hrt hlk hd
end JL


theorem jZ.hinv {I : jI} {o : Nat} (h : jZ I o) : jHInv I o := by
  obtain ⟨z1, z2⟩ := h
  have z := z1 o (by omega) (by omega) (by omega)
  exact ⟨⟨0, by decide, by rw [z]; rfl, fun i hi => absurd hi (by omega)⟩, 0, by decide, by rw [z]; rfl⟩
/-- a new object and a new reference -/
theorem Inv_init {I : jI} (h6 : jZ6 I) (h7 : jZ7 I) : Inv I := by
  obtain ⟨⟨a1, a2, a3, a4, a5⟩, b2, b3, b4, b5, b6⟩ := h6
  obtain ⟨c0, c1, c2, c3, c4⟩ := h7
  have z1 : I 1 = fun _ => 0 := a1 1 (by decide) (by decide) (by decide)
  have z5 : I (1 + 4) = fun _ => 0 := a1 5 (by decide) (by decide) (by decide)
  have s0 : ∀ k, (k < 7 ∨ 11 ≤ k) → I 121 k = 0 := fun k hk => by
    rw [c1]
    show (if k = 10 then (15 : Int32) else if k = 9 then 8 else if k = 8 then 90 else if k = 7 then 120 else 0) = 0
    rw [if_neg (by omega), if_neg (by omega), if_neg (by omega), if_neg (by omega)]
  refine ⟨⟨0, 0, 0, ⟨by decide, by decide, by decide⟩, ⟨?_, ?_, ?_, ?_, ?_, ?_, ?_, ?_⟩, fun j hj => ?_, fun j hj => ?_, fun i hi => absurd hi (by omega), fun i hi => absurd hi (by omega), ?_, ?_⟩, ⟨⟨0, by decide, ?_⟩, ⟨0, by decide, ?_⟩, fun j hj => Or.inl (s0 _ (by omega))⟩, ⟨0, 0, by decide, by decide, ?_, ?_, ?_, fun j hj => absurd hj (by omega)⟩, fun k hk => ?_, 0, by decide, ?_, ?_, fun k hk => absurd hk (by omega)⟩
  · rw [z1]; rfl
  · rw [s0 0 (by decide)]; rfl
  · rw [z1]; rfl
  · rw [s0 1 (by decide)]; rfl
  · rw [z1]; rfl
  · rw [s0 2 (by decide)]; rfl
  · rw [z1, s0 3 (by decide)]
  · rw [z1, s0 4 (by decide)]
  · rw [c1]
    match j, hj with
    | 0, _ => exact a2
    | 1, _ => exact a3
    | 2, _ => exact a4
    | 3, _ => exact a5
  · rw [z5, s0 _ (by omega)]
  · exact s0 5 (by decide)
  · exact s0 6 (by decide)
  · rw [s0 0 (by decide)]; rfl
  · rw [s0 1 (by decide)]; rfl
  · rw [b3]; rfl
  · rw [b3]; rfl
  · rw [c0]; rfl
  · exact (b4 k hk).hinv
  · rw [b5]; rfl
  · rw [c0]; rfl
section CD
variable {I : jI} {p : Int32 × jI} {q : jI → Int32 × jI}
theorem Inv.mi (hI : Inv I) : jMInv I 120 := cM hI rfl
theorem Inv.st (hI : Inv I) : jStates I 120 := by
  obtain ⟨n, m, hn, hm, e1, e2, e3, hs⟩ := hI.2.2.1
  exact ⟨n, hn, e3⟩
theorem Inv.tl (hI : Inv I) : ∃ l : Nat, l ≤ 60 ∧ I 120 5 = nI l := by
  obtain ⟨l, l6, e1, e2, e3⟩ := hI.2.2.2.2
  exact ⟨l, l6, e2⟩
theorem Call2.mi (h : Call2 I p q) (hI : Inv I) : jMInv p.2 120 := hI.mi.row (h.1 121 (by decide))
theorem Call2.st (h : Call2 I p q) (hI : Inv I) : jStates p.2 120 := by
  obtain ⟨n, hn, e⟩ := hI.st
  exact ⟨n, hn, by rw [h.1 120 (by decide)]; exact e⟩
theorem Call2.tl (h : Call2 I p q) (hI : Inv I) : ∃ l : Nat, l ≤ 60 ∧ p.2 120 5 = nI l := by
  obtain ⟨l, hl, e⟩ := hI.tl
  exact ⟨l, hl, by rw [h.1 120 (by decide)]; exact e⟩
theorem CallOk.two {p : Int32 × jI} {f : jI → Int32 × jI} (h : CallOk I p f) (F : Nat → Int32 × jI) (hF : ∀ m, F m = fX6_settle p.2 p.1 m) (q : jI → Int32 × jI) (hq : ∀ K, q K = fX7_acted (f (fX7_begins K 120)).2 120 (f (fX7_begins K 120)).1) : ∃ m, m < 4 ∧ jSet p.2 p.1 m ∧ Call2 I (F m) q := by
  obtain ⟨m, h1, h2, h3, h4, h5, h6⟩ := h
  refine ⟨m, h1, h3, ?_⟩
  rw [hF m]
  refine ⟨h4, ?_, ?_⟩
  · rw [hq]; exact h5
  · rw [hq]; exact h6

theorem d_boiler (hI : Inv I) (x : Int32) : ∃ m, m < 4 ∧ jSet (fX2_addBoiler (fX2_copyFrom I 20 1) 20 x).2 (fX2_addBoiler (fX2_copyFrom I 20 1) 20 x).1 m ∧ Call2 I (fX6_boiler I x m) (fun K => fX7_boiler K 120 x) :=
  (c_boiler hI x).two (fun m => fX6_boiler I x m) (fun _ => rfl) (fun K => fX7_boiler K 120 x) (fun K => rfl)
theorem d_inspector (hI : Inv I) (x y : Int32) : ∃ m, m < 4 ∧ jSet (fX2_addInspector (fX2_copyFrom I 20 1) 20 x y).2 (fX2_addInspector (fX2_copyFrom I 20 1) 20 x y).1 m ∧ Call2 I (fX6_inspector I x y m) (fun K => fX7_inspector K 120 x y) :=
  (c_inspector hI x y).two (fun m => fX6_inspector I x y m) (fun _ => rfl) (fun K => fX7_inspector K 120 x y) (fun K => m_inspector_ok K 120 x y)
theorem d_press (hI : Inv I) (x y : Int32) : ∃ m, m < 4 ∧ jSet (fX2_changePressure (fX2_copyFrom I 20 1) 20 x y).2 (fX2_changePressure (fX2_copyFrom I 20 1) 20 x y).1 m ∧ Call2 I (fX6_press I x y m) (fun K => fX7_press K 120 x y) :=
  (c_press hI x y).two (fun m => fX6_press I x y m) (fun _ => rfl) (fun K => fX7_press K 120 x y) (fun K => m_press_ok K 120 x y)
theorem d_inspect (hI : Inv I) (x y : Int32) : ∃ m, m < 4 ∧ jSet (fX2_examine (fX2_copyFrom I 20 1) 20 x y).2 (fX2_examine (fX2_copyFrom I 20 1) 20 x y).1 m ∧ Call2 I (fX6_inspect I x y m) (fun K => fX7_inspect K 120 x y) :=
  (c_inspect hI x y).two (fun m => fX6_inspect I x y m) (fun _ => rfl) (fun K => fX7_inspect K 120 x y) (fun K => rfl)
theorem d_fire (hI : Inv I) (x : Int32) : ∃ m, m < 4 ∧ jSet (fX2_light (fX2_copyFrom I 20 1) 20 x).2 (fX2_light (fX2_copyFrom I 20 1) 20 x).1 m ∧ Call2 I (fX6_fire I x m) (fun K => fX7_fire K 120 x) :=
  (c_fire hI x).two (fun m => fX6_fire I x m) (fun _ => rfl) (fun K => fX7_fire K 120 x) (fun K => rfl)
theorem d_out (hI : Inv I) (x : Int32) : ∃ m, m < 4 ∧ jSet (fX2_putOut (fX2_copyFrom I 20 1) 20 x).2 (fX2_putOut (fX2_copyFrom I 20 1) 20 x).1 m ∧ Call2 I (fX6_out I x m) (fun K => fX7_out K 120 x) :=
  (c_out hI x).two (fun m => fX6_out I x m) (fun _ => rfl) (fun K => fX7_out K 120 x) (fun K => rfl)
theorem d_plan (hI : Inv I) (x y z : Int32) : ∃ m, m < 4 ∧ jSet (fX2_planShutdown (fX2_copyFrom I 20 1) 20 x y z).2 (fX2_planShutdown (fX2_copyFrom I 20 1) 20 x y z).1 m ∧ Call2 I (fX6_plan I x y z m) (fun K => fX7_plan K 120 x y z) :=
  (c_plan hI x y z).two (fun m => fX6_plan I x y z m) (fun _ => rfl) (fun K => fX7_plan K 120 x y z) (fun K => m_plan_ok K 120 x y z)
theorem d_repair (hI : Inv I) (x : Int32) : ∃ m, m < 4 ∧ jSet (fX2_sendToRepair (fX2_copyFrom I 20 1) 20 x).2 (fX2_sendToRepair (fX2_copyFrom I 20 1) 20 x).1 m ∧ Call2 I (fX6_repair I x m) (fun K => fX7_repair K 120 x) :=
  (c_repair hI x).two (fun m => fX6_repair I x m) (fun _ => rfl) (fun K => fX7_repair K 120 x) (fun K => rfl)
theorem d_pass (hI : Inv I) (x : Int32) : ∃ m, m < 4 ∧ jSet (fX2_letWeeksPass (fX2_copyFrom I 20 1) 20 x).2 (fX2_letWeeksPass (fX2_copyFrom I 20 1) 20 x).1 m ∧ Call2 I (fX6_pass I x m) (fun K => fX7_pass K 120 x) :=
  (c_pass hI x).two (fun m => fX6_pass I x m) (fun _ => rfl) (fun K => fX7_pass K 120 x) (fun K => rfl)
theorem d_set (hI : Inv I) (x y : Int32) : ∃ m, m < 4 ∧ jSet (fX2_changeSetting (fX2_copyFrom I 20 1) 20 x y).2 (fX2_changeSetting (fX2_copyFrom I 20 1) 20 x y).1 m ∧ Call2 I (fX6_set I x y m) (fun K => fX7_set K 120 x y) :=
  (c_set hI x y).two (fun m => fX6_set I x y m) (fun _ => rfl) (fun K => fX7_set K 120 x y) (fun K => m_set_ok K 120 x y)
theorem d_play (hI : Inv I) : ∃ m, m < 4 ∧ jSet (fX5_run (fX2_copyFrom I 20 1) 119 117 20) (fX5_ordersDone (fX5_run (fX2_copyFrom I 20 1) 119 117 20) 119) m ∧ Call2 I (fX6_play I m) (fun K => fX7_play K 120) := by
  have h := c_play hI
  unfold fX6_play
  generalize fX5_run (fX2_copyFrom I 20 1) 119 117 20 = K at h ⊢
  exact h.two (fun m => ((fX6_settle K (fX5_ordersDone K 119) m).1, (fX6_settle K (fX5_ordersDone K 119) m).2)) (fun _ => rfl) (fun K => fX7_play K 120) (fun K => fPlay_ok K)
end CD
