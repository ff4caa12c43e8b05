/-- what a method's end may say -/
def jR (G : jG) (d : Nat × Nat × Nat) (Φ : Option Value → jX → jI → Prop) : Prop :=
  match G with
  | ((p, l, e, R, s, m), (args, below, meth, c), w, Q) => Q = MQ below (jQ w Φ) args s d.2.1 d.2.2 (fun q => w.1 ≤ q)
def jRes (r : Option Value) (S : jX) (I : jI) : Option Value → jX → jI → Prop := fun v S' I' => v = r ∧ S' = S ∧ I' = I
theorem jM.mono {d : Nat × Nat × Nat} {mt : jMt} {as : List Value} {S : jX} {I : jI} {Φ Ψ : Option Value → jX → jI → Prop} (h : jM d mt as S I Φ) (hi : ∀ v S' I', Φ v S' I' → Ψ v S' I') : jM d mt as S I Ψ := by
  intro l w
  intro p e ha hc hk s m args below hf happ hP hK
  obtain ⟨q, o, g1, g2, g3, ⟨v, S', I', h1, h2, h3⟩, hL⟩ := h l w p e ha hc hk s m args below hf happ hP hK
  exact ⟨q, o, g1, g2, g3, ⟨v, S', I', h1, hi _ _ _ h2, h3⟩, hL⟩
theorem jl_entry (w : jW) : ∀ (as : List Value) (b n : Nat), (∀ v ∈ as, v.category = 1) → jl w b (as ++ List.replicate n (.long 0)) = lv_args b (as.map (jv w))
  | [], b, 0, _ => rfl
  | [], b, n + 1, h => by
    show jl w b (.long 0 :: ([] ++ List.replicate n (.long 0))) = _
    unfold jl
    rw [if_pos (show (Value.long 0).category = 2 from rfl), jl_entry w [] (b + 1) n h]
    rfl
  | v :: as, b, n, h => by
    have hv : v.category = 1 := h v List.mem_cons_self
    have h2 : ¬ v.category = 2 := by omega
    have h3 : ¬ (jv w v).category = 2 := by rw [jv_cat]; omega
    show jl w b (v :: (as ++ List.replicate n (.long 0))) = lv_args b (jv w v :: as.map (jv w))
    unfold jl lv_args
    rw [if_neg h2, if_neg h3, jl_entry w as (b + 1) n (fun u hu => h u (List.mem_cons_of_mem _ hu))]
theorem jM.of {d : Nat × Nat × Nat} {mt : jMt} {as ls : List Value} {S : jX} {I : jI} {Φ : Option Value → jX → jI → Prop} (hy : plainName mt.1.cls = true) (hn : as.length ≤ mt.2.2.1) (hcat : ∀ v ∈ as, v.category = 1) (hls : as ++ List.replicate (mt.2.2.1 - as.length) (.long 0) = ls)
    (h : ∀ G : jG, jR G d Φ → J G d mt 0 ls [] S I 0 0) : jM d mt as S I Φ := by
  intro l w
  refine Met.ofW (cc := mt.2.1) (maxL := mt.2.2.1) (ret := mt.2.2.2) hy rfl ?_
  intro p e s m args below meth c s₁ B hml hv
  obtain ⟨rfl, hsz, hP, hK⟩ := hv
  have hlen : (lg_sl (as.map (jv w))).length = as.length := by
    have : ∀ (xs : List Value), (∀ v ∈ xs, v.category = 1) → (lg_sl (xs.map (jv w))).length = xs.length := by
      intro xs
      induction xs with
      | nil => intro _; rfl
      | cons v xs ih =>
        intro hx
        have h1 : ¬ (jv w v).category = 2 := by rw [jv_cat, hx v List.mem_cons_self]; decide
        have h2 := ih (fun u hu => hx u (List.mem_cons_of_mem _ hu))
        simp only [lg_sl, List.map_cons, List.flatMap_cons, if_neg h1, List.length_append, List.length_cons, List.length_nil] at h2 ⊢
        omega
    exact this as hcat
  have hl := lv_entry (as.map (jv w)) (n := mt.2.2.1) (by rw [hlen]; exact hn)
  rw [lg_entry_eq]
  generalize (lg_sl (as.map (jv w)) ++ List.replicate (mt.2.2.1 - (lg_sl (as.map (jv w))).length) Slot.unset).toArray = la at hl ⊢
  rw [← jl_entry w as 0 (mt.2.2.1 - as.length) hcat, hls] at hl
  exact h ((p, l, e, _, s, m), (_, below, meth, c), w, _) rfl ⟨⟨B.exec, B.bytes, hml, findClass_of_methodNamed B.named, fun x hx => atoms_spec (ws := Cond.code mt.1 mt.2.1 mt.2.2.1 mt.2.2.2 :: jtw) B.pre _ (List.mem_cons_of_mem _ hx)⟩, hK, by rw [hsz]; omega, B.notSynchronized, (name_of_methodNamed B.named B.method).1, ⟨Nat.le_refl _, Nat.le_refl _⟩, ⟨Nat.le_refl _, Nat.le_refl _⟩, B.returns⟩ s.heap [] la hsz hP va_S.rf hl
/-- a method's link, and what the tables say of the method -/
def jML (own : String) (ix : Nat) (y : MethodName) : Prop := Cond.methodLink own ix y ∈ jtw ∨ ∃ host, Cond.methodLinkNest own ix y host ∈ jnw
def jOk (mt : jMt) (n : Nat) : Prop := Cond.code mt.1 mt.2.1 mt.2.2.1 mt.2.2.2 ∈ jtw ∧ Cond.initialized mt.1.cls ∈ jtw ∧ (mt.1.cls ≠ "java/lang/invoke/MethodHandle" ∧ mt.1.cls ≠ "java/lang/invoke/VarHandle" ∧ (parseMethodDescriptor mt.1.desc).map (fun d => d.parameters.length) = some n) ∧ mt.2.2.1 ≤ 15
def jOkV (mt : jMt) (n : Nat) : Prop := jOk mt n ∧ Cond.instanceMethod mt.1 ∈ jtw ∧ Cond.selects mt.1.cls mt.1 mt.1 ∈ jtw
def jOkS (mt : jMt) (n : Nat) : Prop := jOk mt n ∧ Cond.static mt.1 ∈ jtw
def jOkI (mt : jMt) (n : Nat) : Prop := jOk mt n ∧ Cond.instanceMethod mt.1 ∈ jtw ∧ mt.1.name = "<init>" ∧ mt.2.2.2 = none
theorem jgood (mt : jMt) (h : Cond.code mt.1 mt.2.1 mt.2.2.1 mt.2.2.2 ∈ jtw) : GoodIn jtw (Cond.code mt.1 mt.2.1 mt.2.2.1 mt.2.2.2 :: jtw) := by
  intro w hw
  have hm : w ∈ jtw := by
    rcases List.mem_cons.mp hw with rfl | hw
    · exact h
    · exact hw
  exact ⟨hm, good_of_word (List.mem_filter.mp hm).2⟩
theorem jblind (w : jW) (S : jX) (I : jI) (av : List Value) : FrameBlind (va_Pc av (jP w S I)) := by
  rintro a U g mk ⟨h1, h2, h3, h4⟩
  exact ⟨h1, h2, h3, h4.calling⟩
theorem jgo {p : Program} {l : Launch} {e : Env} {R : Room} {s : State} {m : MethodId} {args : Array Value} {below : List Frame} {meth : Method} {c : Code} {H : Heap} {locs : List Loc} {Q : State → Prop} {k n mc ms pc : Nat} {la : Array Slot} {st0 rest : List Value} {w : jW} {Φ : Option Value → jX → jI → Prop} {a : Array Value}
    (hr : va_Run p l e R s m args below meth c H locs k n mc ms (F0 m pc la st0) rest (jQ w Φ a) (fun q => w.1 ≤ q)) (hS : va_S (fun q => w.1 ≤ q) s.heap H locs)
    (kk : ∀ (v : Option Value) (S' : jX) (I' : jI) (H1 : Heap) (locs1 : List Loc), Φ v S' I' → H1.size = w.1 + S'.1 → va_P w.2.2.1 vwCl (jws w S' I') H1 → va_S (fun q => w.1 ≤ q) s.heap H1 locs1 → W p l e R s m args below meth c H1 locs1 (k + mc) (n + ms) Q (F0 m (pc + 3) la ((v.map (jv w)).toList ++ rest))) : W p l e R s m args below meth c H locs k n Q (F0 m pc la st0) := by
  intro T hT X
  obtain ⟨v0, st₀, t, T', L, h0, X', hL, e1, e2, ⟨v, S', I', hv, hp, hz1, hP1, hz, hk⟩, stp⟩ := hr T hT X
  cases hv
  rw [h0] at hz hk
  obtain ⟨t2, a1, b1⟩ := kk v S' I' T'.heap (locs ++ L) hp (by rw [e1]; exact hz1) (by rw [e1]; exact hP1)
    ⟨Nat.le_trans hS.1 (by rw [e1]; exact hz), fun q h1 h2 => by rw [e1, hk q (Nat.lt_of_lt_of_le h1 hS.1) h2]; exact hS.2.1 q h1 h2, fun q hq => by
      rcases List.mem_append.mp hq with h | h
      · exact hS.2.2 q h
      · exact hL q h⟩ T' rfl X'
  exact ⟨t2, stp t2 a1, b1⟩
theorem jroom (w : jW) {m : MethodId} {pc : Nat} {la : Array Slot} {st rest : List Value} (h : rest.length ≤ 4) : 2 * (F0 m pc la st).monitorRoom + ((rest.map (jv w)).map fun v => v.category).sum ≤ 8 := by
  refine lv_room ?_
  have : ∀ xs : List Value, ((xs.map (jv w)).map fun v => v.category).sum ≤ 2 * xs.length := by
    intro xs
    induction xs with
    | nil => exact Nat.le_refl _
    | cons v xs ih =>
      have hc : (jv w v).category ≤ 2 := by rcases lv_cat (jv w v) with h | h <;> omega
      simp only [List.map_cons, List.sum_cons, List.length_cons]
      omega
  have := this rest
  omega
section JK
variable {G : jG} {d d' : Nat × Nat × Nat} {mt mc : jMt} {pc ix : Nat} {ls st rest As : List Value} {S : jX} {I : jI} {k n : Nat} {Φ : Option Value → jX → jI → Prop}

theorem J_callV {o ci : Nat} (hk : jKd S o ci 0) (hci : ci < 8) (hcc : (jC ci).1 = mc.1.cls) (hd : decode mt.2.1 pc = .ok (.invokevirtual ix, 3)) (hL : jML mt.1.cls ix mc.1) (hy : jOkV mc As.length) (hM : jM d' mc (.ref o :: As) S I Φ) (hdd : d'.1 + 1 ≤ d.1) (hk1 : k + d'.2.1 ≤ d.2.1) (hn1 : n + d'.2.2 ≤ d.2.2) (hlen : rest.length ≤ 4) (hst : st = As.reverse ++ .ref o :: rest)
    (h : ∀ v S' I', Φ v S' I' → J G d mt (pc + 3) ls (v.toList ++ rest) S' I' (k + d'.2.1) (n + d'.2.2)) : J G d mt pc ls st S I k n := by
  obtain ⟨⟨p, l, e, R, s, m⟩, ⟨args, below, meth, c⟩, w, Q⟩ := G
  intro hF H locs la hz hP hS hl
  obtain ⟨⟨hx, hb, hml, hown, hts⟩, hK, hsz, hlk, hnm, hfr, hbud, hrt⟩ := id hF
  subst hst
  obtain ⟨⟨hcode, hini, hdsc, h15⟩, hinst, hsel⟩ := hy
  have he := jws_at w S I hk.1
  rw [jcell_o hk hci] at he
  have hpre : PreV s H mc.1.cls (w.1 + o) (va_Pc ((.ref o :: As).map (jv w)) (jP w S I)) (As.map (jv w)) := by
    refine ⟨jblind _ _ _ _, ?_, fun U hU hW => ⟨rfl, by rw [hU]; exact hz, by rw [hU]; exact hP, hK.next hS hU hW⟩⟩
    rw [← hcc]
    exact va_recv hK.1 hP (jC_at hci) he
  have hR : (({ frames := d'.1, cells := d'.2.1, slots := d'.2.2, locals := 34 * d'.1 } : Room)).frames + 1 ≤ R.frames ∧ 8 + (mc.2.2.1 + 11) + (({ frames := d'.1, cells := d'.2.1, slots := d'.2.2, locals := 34 * d'.1 } : Room)).locals ≤ R.locals := by
    refine ⟨?_, ?_⟩ <;> dsimp only <;> omega
  have hfit : k + d'.2.1 ≤ R.cells ∧ n + d'.2.2 ≤ R.slots := ⟨by omega, by omega⟩
  have hstk : (As.reverse ++ .ref o :: rest).map (jv w) = (As.map (jv w)).reverse ++ .ref (w.1 + o) :: rest.map (jv w) := by simp [jv]
  have hrun : va_Run p l e R s m args below meth c H locs k n d'.2.1 d'.2.2 (F0 m pc la ((As.reverse ++ .ref o :: rest).map (jv w))) (rest.map (jv w)) (jQ w Φ (Value.ref (w.1 + o) :: As.map (jv w)).toArray) (fun q => w.1 ≤ q) := by
    rcases hL with hL | ⟨host, hL⟩
    · have cw : CallW R s args mt.1.cls mc.1.cls ix mc.1 mc.2.1 mc.2.2.1 mc.2.2.2 (Cond.code mc.1 mc.2.1 mc.2.2.1 mc.2.2.2 :: jtw) ({ frames := d'.1, cells := d'.2.1, slots := d'.2.2, locals := 34 * d'.1 } : Room) d'.2.1 d'.2.2 As.length :=
        ⟨callB_of As.length hts (jgood mc hcode) rfl rfl rfl (hts _ hini) (hts _ hL) hdsc hR, hts _ hinst, hts _ hsel⟩
      exact va_runV ⟨hx, hb, hml, hown, hts⟩ (hM l w) cw hpre rfl (by simp) hl.1 hstk (jroom w hlen) hd hfit
    · have cw : va_CN R s args mt.1.cls ix mc.1 host mc.2.1 mc.2.2.1 mc.2.2.2 (Cond.code mc.1 mc.2.1 mc.2.2.1 mc.2.2.2 :: jtw) ({ frames := d'.1, cells := d'.2.1, slots := d'.2.2, locals := 34 * d'.1 } : Room) d'.2.1 d'.2.2 As.length :=
        va_cnB As.length hts (jgood mc hcode) rfl rfl rfl (hK.2.1 _ hL) (hts _ hini) hdsc hR
      exact va_runVN (C := mc.1.cls) ⟨hx, hb, hml, hown, hts⟩ (hM l w) ⟨cw, hts _ hinst, hts _ hsel⟩ hpre rfl (by simp) hl.1 hstk (jroom w hlen) hd hfit
  refine jgo hrun hS (fun v S' I' H1 locs1 hφ hz1 hP1 hS1 => ?_)
  have h := h v S' I' hφ hF H1 locs1 la hz1 hP1 hS1 hl
  rw [List.map_append] at h
  cases v <;> exact h

theorem J_callS  (hd : decode mt.2.1 pc = .ok (.invokestatic ix, 3)) (hL : jML mt.1.cls ix mc.1) (hy : jOkS mc As.length) (hM : jM d' mc (As) S I Φ) (hdd : d'.1 + 1 ≤ d.1) (hk1 : k + d'.2.1 ≤ d.2.1) (hn1 : n + d'.2.2 ≤ d.2.2) (hlen : rest.length ≤ 4) (hst : st = As.reverse ++ rest)
    (h : ∀ v S' I', Φ v S' I' → J G d mt (pc + 3) ls (v.toList ++ rest) S' I' (k + d'.2.1) (n + d'.2.2)) : J G d mt pc ls st S I k n := by
  obtain ⟨⟨p, l, e, R, s, m⟩, ⟨args, below, meth, c⟩, w, Q⟩ := G
  intro hF H locs la hz hP hS hl
  obtain ⟨⟨hx, hb, hml, hown, hts⟩, hK, hsz, hlk, hnm, hfr, hbud, hrt⟩ := id hF
  subst hst
  obtain ⟨⟨hcode, hini, hdsc, h15⟩, hstat⟩ := hy
  have hpre : PreS s H (va_Pc (As.map (jv w)) (jP w S I)) (As.map (jv w)) :=
    ⟨jblind _ _ _ _, fun U hU hW => ⟨rfl, by rw [hU]; exact hz, by rw [hU]; exact hP, hK.next hS hU hW⟩⟩
  have hR : (({ frames := d'.1, cells := d'.2.1, slots := d'.2.2, locals := 34 * d'.1 } : Room)).frames + 1 ≤ R.frames ∧ 8 + (mc.2.2.1 + 11) + (({ frames := d'.1, cells := d'.2.1, slots := d'.2.2, locals := 34 * d'.1 } : Room)).locals ≤ R.locals := by
    refine ⟨?_, ?_⟩ <;> dsimp only <;> omega
  have hfit : k + d'.2.1 ≤ R.cells ∧ n + d'.2.2 ≤ R.slots := ⟨by omega, by omega⟩
  have hstk : (As.reverse ++ rest).map (jv w) = (As.map (jv w)).reverse ++ rest.map (jv w) := by simp
  have hrun : va_Run p l e R s m args below meth c H locs k n d'.2.1 d'.2.2 (F0 m pc la ((As.reverse ++ rest).map (jv w))) (rest.map (jv w)) (jQ w Φ (As.map (jv w)).toArray) (fun q => w.1 ≤ q) := by
    rcases hL with hL | ⟨host, hL⟩
    · have cw : CallB R s args mt.1.cls ix mc.1 mc.2.1 mc.2.2.1 mc.2.2.2 (Cond.code mc.1 mc.2.1 mc.2.2.1 mc.2.2.2 :: jtw) ({ frames := d'.1, cells := d'.2.1, slots := d'.2.2, locals := 34 * d'.1 } : Room) d'.2.1 d'.2.2 As.length :=
        callB_of As.length hts (jgood mc hcode) rfl rfl rfl (hts _ hini) (hts _ hL) hdsc hR
      exact va_runS ⟨hx, hb, hml, hown, hts⟩ (hM l w) ⟨cw, hts _ hstat⟩ hpre rfl (by simp) hl.1 hstk (jroom w hlen) hd hfit
    · have cw : va_CN R s args mt.1.cls ix mc.1 host mc.2.1 mc.2.2.1 mc.2.2.2 (Cond.code mc.1 mc.2.1 mc.2.2.1 mc.2.2.2 :: jtw) ({ frames := d'.1, cells := d'.2.1, slots := d'.2.2, locals := 34 * d'.1 } : Room) d'.2.1 d'.2.2 As.length :=
        va_cnB As.length hts (jgood mc hcode) rfl rfl rfl (hK.2.1 _ hL) (hts _ hini) hdsc hR
      exact va_runSN ⟨hx, hb, hml, hown, hts⟩ (hM l w) ⟨cw, hts _ hstat, trivial⟩ hpre rfl (by simp) hl.1 hstk (jroom w hlen) hd hfit
  refine jgo hrun hS (fun v S' I' H1 locs1 hφ hz1 hP1 hS1 => ?_)
  have h := h v S' I' hφ hF H1 locs1 la hz1 hP1 hS1 hl
  rw [List.map_append] at h
  cases v <;> exact h

theorem J_callI {o : Nat} (hd : decode mt.2.1 pc = .ok (.invokespecial ix, 3)) (hL : jML mt.1.cls ix mc.1) (hy : jOkI mc As.length) (hM : jM d' mc (.ref o :: As) S I Φ) (hdd : d'.1 + 1 ≤ d.1) (hk1 : k + d'.2.1 ≤ d.2.1) (hn1 : n + d'.2.2 ≤ d.2.2) (hlen : rest.length ≤ 4) (hst : st = As.reverse ++ .ref o :: rest)
    (h : ∀ v S' I', Φ v S' I' → J G d mt (pc + 3) ls (v.toList ++ rest) S' I' (k + d'.2.1) (n + d'.2.2)) : J G d mt pc ls st S I k n := by
  obtain ⟨⟨p, l, e, R, s, m⟩, ⟨args, below, meth, c⟩, w, Q⟩ := G
  intro hF H locs la hz hP hS hl
  obtain ⟨⟨hx, hb, hml, hown, hts⟩, hK, hsz, hlk, hnm, hfr, hbud, hrt⟩ := id hF
  subst hst
  obtain ⟨⟨hcode, hini, hdsc, h15⟩, hinst, hnm1, hret⟩ := hy
  obtain ⟨my, mb, mn, mr⟩ := mc
  dsimp only at hret hcode hini hdsc h15 hinst hnm1 hL
  subst hret
  have hpre : PreS s H (va_Pc ((.ref o :: As).map (jv w)) (jP w S I)) (.ref (w.1 + o) :: As.map (jv w)) :=
    ⟨jblind _ _ _ _, fun U hU hW => ⟨rfl, by rw [hU]; exact hz, by rw [hU]; exact hP, hK.next hS hU hW⟩⟩
  have hR : (({ frames := d'.1, cells := d'.2.1, slots := d'.2.2, locals := 34 * d'.1 } : Room)).frames + 1 ≤ R.frames ∧ 8 + (mn + 11) + (({ frames := d'.1, cells := d'.2.1, slots := d'.2.2, locals := 34 * d'.1 } : Room)).locals ≤ R.locals := by
    refine ⟨?_, ?_⟩ <;> dsimp only <;> omega
  have hfit : k + d'.2.1 ≤ R.cells ∧ n + d'.2.2 ≤ R.slots := ⟨by omega, by omega⟩
  have hstk : (As.reverse ++ .ref o :: rest).map (jv w) = (As.map (jv w)).reverse ++ .ref (w.1 + o) :: rest.map (jv w) := by simp [jv]
  have hrun : va_Run p l e R s m args below meth c H locs k n d'.2.1 d'.2.2 (F0 m pc la ((As.reverse ++ .ref o :: rest).map (jv w))) (rest.map (jv w)) (jQ w Φ (Value.ref (w.1 + o) :: As.map (jv w)).toArray) (fun q => w.1 ≤ q) := by
    rcases hL with hL | ⟨host, hL⟩
    · have cw : CallB R s args mt.1.cls ix my mb mn none (Cond.code my mb mn none :: jtw) ({ frames := d'.1, cells := d'.2.1, slots := d'.2.2, locals := 34 * d'.1 } : Room) d'.2.1 d'.2.2 As.length :=
        callB_of As.length hts (jgood (my, mb, mn, none) hcode) rfl rfl rfl (hts _ hini) (hts _ hL) hdsc hR
      exact va_runI ⟨hx, hb, hml, hown, hts⟩ (hM l w) ⟨cw, hnm1, hts _ hinst⟩ hpre rfl (by simp) hl.1 hstk (jroom w hlen) hd hfit
    · have cw : va_CN R s args mt.1.cls ix my host mb mn none (Cond.code my mb mn none :: jtw) ({ frames := d'.1, cells := d'.2.1, slots := d'.2.2, locals := 34 * d'.1 } : Room) d'.2.1 d'.2.2 As.length :=
        va_cnB As.length hts (jgood (my, mb, mn, none) hcode) rfl rfl rfl (hK.2.1 _ hL) (hts _ hini) hdsc hR
      exact va_runIN ⟨hx, hb, hml, hown, hts⟩ (hM l w) ⟨cw, hnm1, hts _ hinst⟩ hpre rfl (by simp) hl.1 hstk (jroom w hlen) hd hfit
  refine jgo hrun hS (fun v S' I' H1 locs1 hφ hz1 hP1 hS1 => ?_)
  have h := h v S' I' hφ hF H1 locs1 la hz1 hP1 hS1 hl
  rw [List.map_append] at h
  cases v <;> exact h

theorem jend {w : jW} {s t : State} {H : Heap} {locs : List Loc} {S : jX} {I : jI} {v : Option Value} {a : Array Value} (hz : H.size = w.1 + S.1) (hP : va_P w.2.2.1 vwCl (jws w S I) H) (hS : va_S (fun q => w.1 ≤ q) s.heap H locs) (hφ : Φ v S I) (ht : t.heap = H) : jQ w Φ a s (.returned (v.map (jv w))) t :=
  ⟨v, S, I, rfl, hφ, by rw [ht]; exact hz, by rw [ht]; exact hP, hS.F ht⟩
theorem J_iret {x : Int32} {ty : FieldType} (hR : jR G d Φ) (hd : decode mt.2.1 pc = .ok (.ireturn, 1)) (hty : mt.2.2.2 = some ty) (hnr : narrow ty (.int x) = .int x) (hk : k ≤ d.2.1) (hn : n ≤ d.2.2) (hφ : Φ (some (.int x)) S I) : J G d mt pc ls [.int x] S I k n := by
  obtain ⟨⟨p, l, e, R, s, m⟩, ⟨args, below, meth, c⟩, w, Q⟩ := G
  intro hF H locs la hz hP hS hl
  obtain ⟨⟨hx, hb, hml, hown, hts⟩, hK, hsz, hlk, hnm, hfr, hbud, hrt⟩ := id hF
  have hR : Q = _ := hR
  subst hR
  refine W.widen (k := d.2.1) (n := d.2.2) hk hn ?_
  exact W.zret hx hb (hrt.trans hty) hnr (fun t ht hW => jend (v := some (.int x)) hz hP hS hφ ht) hS.2.2 hd hlk
theorem J_vret (hR : jR G d Φ) (hd : decode mt.2.1 pc = .ok (.return_, 1)) (hty : mt.2.2.2 = none) (hk : k ≤ d.2.1) (hn : n ≤ d.2.2) (hφ : Φ none S I) : J G d mt pc ls [] S I k n := by
  obtain ⟨⟨p, l, e, R, s, m⟩, ⟨args, below, meth, c⟩, w, Q⟩ := G
  intro hF H locs la hz hP hS hl
  obtain ⟨⟨hx, hb, hml, hown, hts⟩, hK, hsz, hlk, hnm, hfr, hbud, hrt⟩ := id hF
  have hR : Q = _ := hR
  subst hR
  refine W.widen (k := d.2.1) (n := d.2.2) hk hn ?_
  exact W.vret hx hb (hrt.trans hty) (fun t ht hW => jend (v := none) hz hP hS hφ ht) hS.2.2 hd hlk
theorem J_aret {v : Value} {C : String} (hR : jR G d Φ) (hd : decode mt.2.1 pc = .ok (.areturn, 1)) (hty : mt.2.2.2 = some (.object C)) (hv : jisRef v = true) (hk : k ≤ d.2.1) (hn : n ≤ d.2.2) (hφ : Φ (some v) S I) : J G d mt pc ls [v] S I k n := by
  obtain ⟨⟨p, l, e, R, s, m⟩, ⟨args, below, meth, c⟩, w, Q⟩ := G
  intro hF H locs la hz hP hS hl
  obtain ⟨⟨hx, hb, hml, hown, hts⟩, hK, hsz, hlk, hnm, hfr, hbud, hrt⟩ := id hF
  have hR : Q = _ := hR
  subst hR
  refine W.widen (k := d.2.1) (n := d.2.2) hk hn ?_
  refine W.aret hx hb (hrt.trans hty) (Or.inl ⟨C, rfl⟩) ?_ (fun t ht hW => jend (v := some v) hz hP hS hφ ht) hS.2.2 hd hlk
  cases v <;> first | exact Or.inl rfl | exact Or.inr ⟨_, rfl⟩ | cases hv
theorem J_objInit {o : Nat} (hd : decode mt.2.1 pc = .ok (.invokespecial ix, 3)) (hL : Cond.methodLink mt.1.cls ix objectInit ∈ jtw) (hI : Cond.instanceMethod objectInit ∈ jtw) (hC : Cond.code objectInit ⟨#[0xb1]⟩ 1 none ∈ jtw) (hd1 : 1 ≤ d.1) (hlen : rest.length ≤ 4) (h : J G d mt (pc + 3) ls rest S I k n) : J G d mt pc ls (.ref o :: rest) S I k n := by
  obtain ⟨⟨p, l, e, R, s, m⟩, ⟨args, below, meth, c⟩, w, Q⟩ := G
  intro hF H locs la hz hP hS hl
  obtain ⟨⟨hx, hb, hml, hown, hts⟩, hK, hsz, hlk, hnm, hfr, hbud, hrt⟩ := id hF
  refine W.objInit hx hb hown (hts _ hL) (hts _ hI) (hts _ hC) rfl (hl.1.trans hml.symm) rfl hd (by omega) ?_ (h hF H locs la hz hP hS hl)
  have := jroom w (m := m) (pc := pc) (la := la) (st := .ref o :: rest) hlen
  have h2 : (F0 m pc la (List.map (jv w) (.ref o :: rest))).monitorRoom = (F0 m pc la (.ref o :: rest)).monitorRoom := rfl
  rw [h2]
  omega
end JK

