theorem jC_in {c : Nat} (h : c < 8) : ∀ w ∈ u_ws (jC c).1 (jC c).2.1 (jC c).2.2, w ∈ jtw :=
  jlt8 (P := fun c => ∀ w ∈ u_ws (jC c).1 (jC c).2.1 (jC c).2.2, w ∈ jtw) jinX0 jinX1 jinX2 jinX3 jinX4 jinX5 jinX6 jinX7 h
/-- the cell o is of kind t (below 8: an object of that class; 8 ints, 9 chars, 10.. references), n its length -/
def jKd (S : jX) (o t n : Nat) : Prop := o < S.1 ∧ S.2.1 o = (t, n)
def jset (I : jI) (o j : Nat) (x : Int32) : jI := fun a b => if a = o ∧ b = j then x else I a b
/-- a field's link: the class of its object, its place -/
def jFL (own : String) (ix ci j : Nat) : Prop := ci < 8 ∧ j < (jC ci).2.2 ∧ (Cond.fieldLink own ix ((jC ci).2.1 j).1 ((jC ci).2.1 j).2.1 ((jC ci).2.1 j).2.2.1 ∈ jtw ∨ ∃ host, Cond.fieldLinkNest own ix ((jC ci).2.1 j).1 ((jC ci).2.1 j).2.1 ((jC ci).2.1 j).2.2.1 host ∈ jnw)
theorem jcell_o {w : jW} {S : jX} {I : jI} {o ci n : Nat} (hk : jKd S o ci n) (hc : ci < 8) : jcell w S I o = .inr (ci, jobj w S I o) := by
  simp [jcell, hk.2, hc]
theorem jcell_i {w : jW} {S : jX} {I : jI} {o n t : Nat} (hk : jKd S o t n) (h1 : 8 ≤ t) (h2 : t < 10) : jcell w S I o = .inl (w.2.2.2 t, n, .inl (I o)) := by
  have h3 : ¬ t < 8 := by omega
  simp [jcell, hk.2, h2, h3]
theorem jcell_r {w : jW} {S : jX} {I : jI} {o n t : Nat} (hk : jKd S o t n) (h1 : 10 ≤ t) : jcell w S I o = .inl (w.2.2.2 t, n, .inr (.inr (.inr (.inr (fun j => jq w (S.2.2 o j)))))) := by
  have h3 : ¬ t < 8 := by omega
  have h4 : ¬ t < 10 := by omega
  simp [jcell, hk.2, h3, h4]
theorem jobj_at {w : jW} {S : jX} {I : jI} {o ci n j : Nat} (hk : jKd S o ci n) (hj : j < (jC ci).2.2) : (jobj w S I o)[j]? = some (if jrf ci j = true then va_rf (jq w (S.2.2 o j)) else .int (I o j)) := by
  simp [jobj, hk.2, hj]
theorem jobj_len {w : jW} {S : jX} {I : jI} {o ci n : Nat} (hk : jKd S o ci n) : (jobj w S I o).length = (jC ci).2.2 := by simp [jobj, hk.2]
section JH
variable {G : jG} {d : Nat × Nat × Nat} {mt : jMt} {pc : Nat} {ls st : List Value} {S : jX} {I : jI} {k n : Nat}

theorem J_getv {ix ci j o : Nat} (hd : decode mt.2.1 pc = .ok (.getfield ix, 3)) (hf : jFL mt.1.cls ix ci j) (hk : jKd S o ci 0) (v : Value) (hv : ∀ w : jW, (if jrf ci j = true then va_rf (jq w (S.2.2 o j)) else .int (I o j)) = jv w v) (h : J G d mt (pc + 3) ls (v :: st) S I k n) : J G d mt pc ls (.ref o :: st) S I k n := by
  obtain ⟨⟨p, l, e, R, s, m⟩, ⟨args, below, meth, c⟩, w, Q⟩ := G
  intro hF H locs la hz hP hS hl
  obtain ⟨⟨hx, hb, hml, hown, hts⟩, hK, hsz, hlk, hnm, hfr, hbud, hrt⟩ := id hF
  obtain ⟨hc, hj, hw⟩ := hf
  have he := jws_at w S I hk.1
  rw [jcell_o hk hc] at he
  have hv' : (jobj w S I o)[j]? = some (jv w v) := by rw [jobj_at hk hj, hv w]
  have h := h hF H locs la hz hP hS hl
  rcases hw with hw | ⟨host, hw⟩
  · exact va_get (D := w.2.2.1) (ci := ci) hx hb hts (jC_in hc) hown hK.1 hP o he (jC_at hc) j hj (hts _ hw) (fun _ h9 => h9) hv' hd h
  · exact va_getN (D := w.2.2.1) (ci := ci) hx hb hts (jC_in hc) hown hK.1 hP o he (jC_at hc) j hj (va_Nw.use rfl (hK.2.1 _ hw)) (fun _ h9 => h9) hv' hd h
theorem J_getI {ix ci j o : Nat} (hd : decode mt.2.1 pc = .ok (.getfield ix, 3)) (hf : jFL mt.1.cls ix ci j) (hr : jrf ci j = false) (hk : jKd S o ci 0) (h : J G d mt (pc + 3) ls (.int (I o j) :: st) S I k n) : J G d mt pc ls (.ref o :: st) S I k n :=
  J_getv hd hf hk (.int (I o j)) (fun w => by rw [hr]; rfl) h
theorem J_getR {ix ci j o : Nat} {q : Nat} (hd : decode mt.2.1 pc = .ok (.getfield ix, 3)) (hf : jFL mt.1.cls ix ci j) (hr : jrf ci j = true) (hk : jKd S o ci 0) (hq : S.2.2 o j = some q) (h : J G d mt (pc + 3) ls (.ref q :: st) S I k n) : J G d mt pc ls (.ref o :: st) S I k n :=
  J_getv hd hf hk (.ref q) (fun w => by rw [hr, hq]; rfl) h

theorem jws_put {w : jW} {S : jX} {I : jI} {o ci j : Nat} {x : Int32} (hk : jKd S o ci 0) (hc : ci < 8) (hj : j < (jC ci).2.2) (hr : jrf ci j = false) : (jws w S I).set o (w.1 + o, .inr (ci, (jobj w S I o).set j (.int x))) = jws w S (jset I o j x) := by
  refine jws_set rfl ?_ (fun a ha hne => ?_)
  · rw [jcell_o hk hc]
    congr 2
    apply List.ext_getElem?
    intro b
    by_cases hb : b < (jC ci).2.2
    · rw [jobj_at hk hb]
      by_cases hbj : j = b
      · subst hbj
        rw [List.getElem?_set_self (by rw [jobj_len hk]; exact hj)]
        simp [hr, jset]
      · rw [List.getElem?_set_ne hbj, jobj_at hk hb]
        simp only [jset, true_and, if_neg (fun h => hbj (Eq.symm h) : ¬ b = j)]
    · rw [List.getElem?_eq_none (by rw [List.length_set, jobj_len hk]; omega), List.getElem?_eq_none (by rw [jobj_len hk]; omega)]
  · have hf : jset I o j x a = I a := by funext b; simp [jset, hne]
    simp [jcell, jobj, hf]
theorem jput {p : Program} {l : Launch} {e : Env} {R : Room} {s : State} {m : MethodId} {args : Array Value} {below : List Frame} {meth : Method} {c : Code} {H : Heap} {locs : List Loc} {Q : State → Prop} {w : jW} {o ci j ix : Nat} {v : Value} {la : Array Slot} {rest : List Value} {cc : ByteArray} {own : String} {fs : List Value} {ws : va_W}
    (hx : p.tables.exec = Jvm.exec) (hb : c.code = cc) (hown : s.vm.findClass own = some m.cls) (hts : ∀ x ∈ jtw, x.before args s = true) (hK : jK w s) (hP : va_P w.2.2.1 vwCl ws H) (hD : va_D (fun q => w.1 ≤ q) ws) (hS : va_S (fun q => w.1 ≤ q) s.heap H locs)
    (hf : jFL own ix ci j) (he : ws[o]? = some (w.1 + o, .inr (ci, fs))) (hl : j < fs.length) (hfin : ((jC ci).2.1 j).2.2.2 = false ∨ (((jC ci).2.1 j).2.2.2 = true ∧ meth.name = "<init>" ∧ ((jC ci).2.1 j).1 = own ∧ (Cond.fieldLink own ix ((jC ci).2.1 j).1 ((jC ci).2.1 j).2.1 ((jC ci).2.1 j).2.2.1 ∈ jtw))) (hn : narrow (jty ci j) v = v) (hfit : fits (jty ci j) v = true) (hd : decode cc pc = .ok (.putfield ix, 3))
    (kk : ∀ (H1 : Heap) (locs1 : List Loc), H1.size = H.size → va_P w.2.2.1 vwCl (ws.set o (w.1 + o, .inr (ci, fs.set j v))) H1 → va_S (fun q => w.1 ≤ q) s.heap H1 locs1 → W p l e R s m args below meth c H1 locs1 k n Q (F0 m (pc + 3) la rest)) : W p l e R s m args below meth c H locs k n Q (F0 m pc la (v :: .ref (w.1 + o) :: rest)) := by
  obtain ⟨hc, hj, hw⟩ := hf
  have hap := va_apart (own := own) hts (jC_in hc) (jty ci) (jC_ty hc) (jC_nm hc) hK.1 (jC_at hc)
  obtain ⟨r, h1, cell, q1, q2, q3, q4⟩ := hP o _ he
  have hr : r = jC ci := Option.some.inj (h1.symm.trans (jC_at hc))
  subst hr
  obtain ⟨hSl, hfc, kC, hkC, hkind⟩ := hK.1.1 ci _ (jC_at hc)
  obtain ⟨cf, kf, fi, f, hi, hsl⟩ := hSl j hj
  have hlay := hts _ (jC_in hc _ (u_in_lay hj))
  have hst := (u_facts hfc hkC (u_lays hts (jC_in hc) hj) hi).1
  have fin : ∀ H' : Heap, H'[w.1 + o]? = some (cell.setSlot f.slot v) → H'.size = H.size → (∀ q, q ≠ w.1 + o → H'[q]? = H[q]?) → W p l e R s m args below meth c H' (locs ++ [⟨w.1 + o, f.slot⟩]) k n Q (F0 m (pc + 3) la rest) := by
    intro H' e1 e2 e3
    rw [hsl] at e1 ⊢
    exact kk H' _ e2 (hP.set hD he ⟨_, jC_at hc, t_OB.to (V := updV (vp_V fs) j v) ⟨_, e1, q2, q3, t_set q4 hap hj v⟩ (fun b _ => vp_updV_set hl v b)⟩ e3) (hS.put e2 e3 (show w.1 ≤ w.1 + o by omega))
  unfold u_lay at hlay
  rcases hfin with hfin | ⟨hfin, hin2, hdecl, hw1⟩
  · rw [if_neg (by rw [hfin]; decide)] at hlay
    have h6 := u_store hfc hkC hkind hlay hi (jC_ty hc j hj) hn hfit
    rcases hw with hw | ⟨host, hw⟩
    · exact W.putK hx hb (f := f) ⟨hown, hts _ hw, ⟨_, _, _, hi⟩, hst⟩ (by rw [q2]; exact h6) q1 q3 (by rw [hsl]; exact k2_hasslot (q4 j hj)) rfl rfl hd fin
    · exact va_WputK hx hb (f := f) hown (va_Nw.use rfl (hK.2.1 _ hw)) hi hst (by rw [q2]; exact h6) q1 q3 (by rw [hsl]; exact k2_hasslot (q4 j hj)) rfl rfl hd fin
  · rw [if_pos hfin] at hlay
    have hcf : m.cls = cf := by
      obtain ⟨_, _, c', _, _, _, -, -, hf', -, -, -, hown2, -⟩ := Cond.laysFinal_spec hlay
      have e1 : c' = cf := by have := hi.symm.trans hf'; simp at this; exact this.1.symm
      rw [hdecl] at hown2
      rw [← e1]; exact Option.some.inj (hown.symm.trans hown2)
    have h6 := u_fits hfc hkC hkind (Or.inr hlay) hi (jC_ty hc j hj) hn hfit
    exact W.putFinK hx hb hown (hts _ hw1) hi hst hcf hin2 (by rw [q2]; exact h6) q1 q3 (by rw [hsl]; exact k2_hasslot (q4 j hj)) rfl rfl hd fin

theorem J_putI {ix ci j o : Nat} {x : Int32} (hd : decode mt.2.1 pc = .ok (.putfield ix, 3)) (hf : jFL mt.1.cls ix ci j) (hr : jrf ci j = false) (hfin : ((jC ci).2.1 j).2.2.2 = false) (hn : narrow (jty ci j) (.int x) = .int x) (hfit : fits (jty ci j) (.int x) = true) (hk : jKd S o ci 0) (h : J G d mt (pc + 3) ls st S (jset I o j x) k n) : J G d mt pc ls (.int x :: .ref o :: st) S I k n := by
  obtain ⟨⟨p, l, e, R, s, m⟩, ⟨args, below, meth, c⟩, w, Q⟩ := G
  intro hF H locs la hz hP hS hl
  obtain ⟨⟨hx, hb, hml, hown, hts⟩, hK, hsz, hlk, hnm, hfr, hbud, hrt⟩ := id hF
  have he := jws_at w S I hk.1
  rw [jcell_o hk hf.1] at he
  refine jput (v := .int x) hx hb hown hts hK hP (jws_D w S I) hS hf he (by rw [jobj_len hk]; exact hf.2.1) (Or.inl hfin) hn hfit hd (fun H1 locs1 hz1 hP1 hS1 => ?_)
  rw [jws_put hk hf.1 hf.2.1 hr] at hP1
  exact h hF H1 locs1 la (hz1.trans hz) hP1 hS1 hl

theorem jtys_i (ca : Nat → ClassId) : (jtys ca)[0]? = some (ca 8, .int) := rfl
theorem jtys_c (ca : Nat → ClassId) : (jtys ca)[1]? = some (ca 9, .char) := rfl
theorem jtys_r {t : Nat} (ca : Nat → ClassId) (h1 : 10 ≤ t) (h2 : t < 13) : ∃ C, (jtys ca)[t - 8]? = some (ca t, .object C) := by
  match t, h1, h2 with
  | 10, _, _ => exact ⟨_, rfl⟩
  | 11, _, _ => exact ⟨_, rfl⟩
  | 12, _, _ => exact ⟨_, rfl⟩
theorem jtys_any {t : Nat} (ca : Nat → ClassId) (h1 : 8 ≤ t) (h2 : t < 13) : ∃ ty, (jtys ca)[t - 8]? = some (ca t, ty) := by
  match t, h1, h2 with
  | 8, _, _ => exact ⟨_, rfl⟩
  | 9, _, _ => exact ⟨_, rfl⟩
  | 10, _, _ => exact ⟨_, rfl⟩
  | 11, _, _ => exact ⟨_, rfl⟩
  | 12, _, _ => exact ⟨_, rfl⟩

theorem J_iaload {o N : Nat} {i : Int32} (hd : decode mt.2.1 pc = .ok (.iaload, 1)) (hk : jKd S o 8 N) (hi : vp_in i N) (h : J G d mt (pc + 1) ls (.int (I o i.toNatClampNeg) :: st) S I k n) : J G d mt pc ls (.int i :: .ref o :: st) S I k n := by
  obtain ⟨⟨p, l, e, R, s, m⟩, ⟨args, below, meth, c⟩, w, Q⟩ := G
  intro hF H locs la hz hP hS hl
  obtain ⟨⟨hx, hb, hml, hown, hts⟩, hK, hsz, hlk, hnm, hfr, hbud, hrt⟩ := id hF
  have he := jws_at w S I hk.1
  rw [jcell_i hk (Nat.le_refl 8) (by decide)] at he
  exact va_iald hx hb hK.1 hP o 0 he (jtys_i _) hi hd (h hF H locs la hz hP hS hl)

theorem J_caload {o N : Nat} {i : Int32} (hd : decode mt.2.1 pc = .ok (.caload, 1)) (hk : jKd S o 9 N) (hi : vp_in i N) (h : J G d mt (pc + 1) ls (.int (I o i.toNatClampNeg) :: st) S I k n) : J G d mt pc ls (.int i :: .ref o :: st) S I k n := by
  obtain ⟨⟨p, l, e, R, s, m⟩, ⟨args, below, meth, c⟩, w, Q⟩ := G
  intro hF H locs la hz hP hS hl
  obtain ⟨⟨hx, hb, hml, hown, hts⟩, hK, hsz, hlk, hnm, hfr, hbud, hrt⟩ := id hF
  have he := jws_at w S I hk.1
  rw [jcell_i hk (by decide) (by decide)] at he
  exact va_cald hx hb hK.1 hP o 1 he (jtys_c _) hi hd (h hF H locs la hz hP hS hl)

theorem J_aaload {o t N q : Nat} {i : Int32} (hd : decode mt.2.1 pc = .ok (.aaload, 1)) (hk : jKd S o t N) (ht : 10 ≤ t ∧ t < 13) (hi : vp_in i N) (hq : S.2.2 o i.toNatClampNeg = some q) (h : J G d mt (pc + 1) ls (.ref q :: st) S I k n) : J G d mt pc ls (.int i :: .ref o :: st) S I k n := by
  obtain ⟨⟨p, l, e, R, s, m⟩, ⟨args, below, meth, c⟩, w, Q⟩ := G
  intro hF H locs la hz hP hS hl
  obtain ⟨⟨hx, hb, hml, hown, hts⟩, hK, hsz, hlk, hnm, hfr, hbud, hrt⟩ := id hF
  have he := jws_at w S I hk.1
  rw [jcell_r hk ht.1] at he
  obtain ⟨C, hC⟩ := jtys_r w.2.2.2 ht.1 ht.2
  refine va_aldq hx hb hK.1 hP o (t - 8) he hC hi hd ?_
  rw [hq]
  exact h hF H locs la hz hP hS hl

theorem J_alen {o t N : Nat} {x : Int32} (hd : decode mt.2.1 pc = .ok (.arraylength, 1)) (hk : jKd S o t N) (ht : 8 ≤ t ∧ t < 13) (hx0 : Int32.ofNat N = x) (h : J G d mt (pc + 1) ls (.int x :: st) S I k n) : J G d mt pc ls (.ref o :: st) S I k n := by
  obtain ⟨⟨p, l, e, R, s, m⟩, ⟨args, below, meth, c⟩, w, Q⟩ := G
  intro hF H locs la hz hP hS hl
  obtain ⟨⟨hx, hb, hml, hown, hts⟩, hK, hsz, hlk, hnm, hfr, hbud, hrt⟩ := id hF
  have he := jws_at w S I hk.1
  obtain ⟨ty, hC⟩ := jtys_any w.2.2.2 ht.1 ht.2
  have h := h hF H locs la hz hP hS hl
  by_cases h10 : t < 10
  · rw [jcell_i hk ht.1 h10] at he
    exact va_alen hx hb hK.1 hP o (t - 8) he hC hx0 hd h
  · rw [jcell_r hk (by omega)] at he
    exact va_alen hx hb hK.1 hP o (t - 8) he hC hx0 hd h
theorem jws_sti {w : jW} {S : jX} {I : jI} {o t N j : Nat} {x : Int32} (hk : jKd S o t N) (h1 : 8 ≤ t) (h2 : t < 10) : (jws w S I).set o (w.1 + o, .inl (w.2.2.2 t, N, .inl (upd (I o) j x))) = jws w S (jset I o j x) := by
  refine jws_set rfl ?_ (fun a ha hne => ?_)
  · rw [jcell_i hk h1 h2]
    have hf : jset I o j x o = upd (I o) j x := by funext b; simp [jset, upd]
    rw [hf]
  · have hf : jset I o j x a = I a := by funext b; simp [jset, hne]
    simp [jcell, jobj, hf]

theorem J_iastore {o N : Nat} {i x : Int32} (hd : decode mt.2.1 pc = .ok (.iastore, 1)) (hk : jKd S o 8 N) (hi : vp_in i N) (h : J G d mt (pc + 1) ls st S (jset I o i.toNatClampNeg x) k n) : J G d mt pc ls (.int x :: .int i :: .ref o :: st) S I k n := by
  obtain ⟨⟨p, l, e, R, s, m⟩, ⟨args, below, meth, c⟩, w, Q⟩ := G
  intro hF H locs la hz hP hS hl
  obtain ⟨⟨hx, hb, hml, hown, hts⟩, hK, hsz, hlk, hnm, hfr, hbud, hrt⟩ := id hF
  have he := jws_at w S I hk.1
  rw [jcell_i hk (Nat.le_refl 8) (by decide)] at he
  refine W.iast hx hb (hP o _ he) ((hK.1.2 0 _ (jtys_i _)).1 N (fun j => .int (I o j))) (fun q => by cases q) (by show ¬ (i < 0 ∨ (arrV _ _ _).slots.size ≤ _); rw [arrV_size]; exact hi) rfl rfl hd fun H1 e1 z oq => ?_
  have hP1 : va_P w.2.2.1 vwCl ((jws w S I).set o (w.1 + o, .inl (w.2.2.2 8, N, .inl (upd (I o) i.toNatClampNeg x)))) H1 := by
    refine hP.set (jws_D w S I) he ?_ oq
    show H1[w.1 + o]? = some (vp_cell _ _)
    rw [e1, vp_cell_i, vp_cell_i, arrV_store]
    congr 2
    funext q
    by_cases hq : q = i.toNatClampNeg
    · subst hq
      simp [updV, upd]
    · simp [updV, upd, hq]
  rw [jws_sti hk (by decide) (by decide)] at hP1
  exact h hF H1 _ la (z.trans hz) hP1 (hS.put z oq (show w.1 ≤ w.1 + o by omega)) hl

theorem J_castore {o N : Nat} {i x : Int32} (hd : decode mt.2.1 pc = .ok (.castore, 1)) (hk : jKd S o 9 N) (hi : vp_in i N) (hx9 : vp_nar .char x = x) (h : J G d mt (pc + 1) ls st S (jset I o i.toNatClampNeg x) k n) : J G d mt pc ls (.int x :: .int i :: .ref o :: st) S I k n := by
  obtain ⟨⟨p, l, e, R, s, m⟩, ⟨args, below, meth, c⟩, w, Q⟩ := G
  intro hF H locs la hz hP hS hl
  obtain ⟨⟨hx, hb, hml, hown, hts⟩, hK, hsz, hlk, hnm, hfr, hbud, hrt⟩ := id hF
  have he := jws_at w S I hk.1
  rw [jcell_i hk (by decide) (by decide)] at he
  refine W.cast hx hb (hP o _ he) ((hK.1.2 1 _ (jtys_c _)).1 N (fun j => .int (I o j))) (fun q => by cases q) (by show ¬ (i < 0 ∨ (arrV _ _ _).slots.size ≤ _); rw [arrV_size]; exact hi) rfl rfl hd fun H1 e1 z oq => ?_
  have hP1 : va_P w.2.2.1 vwCl ((jws w S I).set o (w.1 + o, .inl (w.2.2.2 9, N, .inl (upd (I o) i.toNatClampNeg x)))) H1 := by
    refine hP.set (jws_D w S I) he ?_ oq
    show H1[w.1 + o]? = some (vp_cell _ _)
    rw [e1, vp_cell_i, vp_cell_i, arrV_store]
    congr 2
    funext q
    by_cases hq : q = i.toNatClampNeg
    · subst hq
      have : narrow .char (.int x) = .int (vp_nar .char x) := rfl
      simp [updV, upd]
      rw [this, hx9]
    · simp [updV, upd, hq]
  rw [jws_sti hk (by decide) (by decide)] at hP1
  exact h hF H1 _ la (z.trans hz) hP1 (hS.put z oq (show w.1 ≤ w.1 + o by omega)) hl

theorem J_gets {ix : Nat} {host : String} (hd : decode mt.2.1 pc = .ok (.getstatic ix, 3)) (hw : Cond.fieldLinkNest mt.1.cls ix RX6 "GREATEST_SETTINGS" "[I" host ∈ jnw) (h : J G d mt (pc + 3) ls (.retAddr 0 :: st) S I k n) : J G d mt pc ls st S I k n := by
  obtain ⟨⟨p, l, e, R, s, m⟩, ⟨args, below, meth, c⟩, w, Q⟩ := G
  intro hF H locs la hz hP hS hl
  obtain ⟨⟨hx, hb, hml, hown, hts⟩, hK, hsz, hlk, hnm, hfr, hbud, hrt⟩ := id hF
  obtain ⟨cf, kf, fi, f, a, cell, h1, h2, h3, h4, h5, h6, h7, h8⟩ := hK.2.2.2.1
  exact va_WgetsN hx hb hown (va_Nw.use rfl (hK.2.1 _ hw)) h1 h2 h3 h4 (by rw [hS.2.1 a (Array.getElem?_eq_some_iff.mp h5).1 h8]; exact h5) (fun e => by rw [e] at h6; cases h6) h7 rfl hd (h hF H locs la hz hP hS hl)

theorem J_slen (hd : decode mt.2.1 pc = .ok (.arraylength, 1)) (h : J G d mt (pc + 1) ls (.int 4 :: st) S I k n) : J G d mt pc ls (.retAddr 0 :: st) S I k n := by
  obtain ⟨⟨p, l, e, R, s, m⟩, ⟨args, below, meth, c⟩, w, Q⟩ := G
  intro hF H locs la hz hP hS hl
  obtain ⟨⟨hx, hb, hml, hown, hts⟩, hK, hsz, hlk, hnm, hfr, hbud, hrt⟩ := id hF
  exact va_tlen hx hb hK.2.2.2.2 hS rfl hd (h hF H locs la hz hP hS hl)

theorem J_sld {i : Int32} (hd : decode mt.2.1 pc = .ok (.iaload, 1)) (hi : vp_in i 4) (h : J G d mt (pc + 1) ls (.int (jgs i.toNatClampNeg) :: st) S I k n) : J G d mt pc ls (.int i :: .retAddr 0 :: st) S I k n := by
  obtain ⟨⟨p, l, e, R, s, m⟩, ⟨args, below, meth, c⟩, w, Q⟩ := G
  intro hF H locs la hz hP hS hl
  obtain ⟨⟨hx, hb, hml, hown, hts⟩, hK, hsz, hlk, hnm, hfr, hbud, hrt⟩ := id hF
  exact va_ti (N := 4) hx hb hK.2.2.2.2 hS hi rfl hd (h hF H locs la hz hP hS hl)

end JH
