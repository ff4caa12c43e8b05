/-- a new cell; its ints 0, its references null -/
def jnS (S : jX) (t n : Nat) : jX := (S.1 + 1, fun a => if a = S.1 then (t, n) else S.2.1 a, fun a j => if a = S.1 then none else S.2.2 a j)
def jnI (S : jX) (I : jI) : jI := fun a j => if a = S.1 then 0 else I a j
def jsetR (S : jX) (o j q : Nat) : jX := (S.1, S.2.1, fun a b => if a = o ∧ b = j then some q else S.2.2 a b)
theorem jC_df {c : Nat} (h : c < 8) : ∀ k, k < (jC c).2.2 → defaultValue (jty c k) = if jrf c k = true then .null else .int 0 :=
  jlt8 (P := fun c => ∀ k, k < (jC c).2.2 → defaultValue (jty c k) = if jrf c k = true then .null else .int 0) (by decide +kernel) (by decide +kernel) (by decide +kernel) (by decide +kernel) (by decide +kernel) (by decide +kernel) (by decide +kernel) (by decide +kernel) h
theorem jcell_old {w : jW} {S : jX} {I : jI} {t n a : Nat} (h : a < S.1) : jcell w (jnS S t n) (jnI S I) a = jcell w S I a := by
  have hne : ¬ a = S.1 := by omega
  have hf : jnI S I a = I a := by funext b; simp [jnI, hne]
  have hg : (jnS S t n).2.2 a = S.2.2 a := by funext b; simp [jnS, hne]
  have hk : (jnS S t n).2.1 a = S.2.1 a := by simp [jnS, hne]
  simp only [jcell, jobj, hf, hg, hk]
theorem jKd_new (S : jX) (t n : Nat) : jKd (jnS S t n) S.1 t n := ⟨Nat.lt_succ_self _, by simp [jnS]⟩
theorem jKd_old {S : jX} {o t n t' n' : Nat} (h : jKd S o t n) : jKd (jnS S t' n') o t n := ⟨Nat.lt_succ_of_lt h.1, by have h1 := h.1; have h2 := h.2; simp only [jnS]; rw [if_neg (by omega), h2]⟩
theorem jmove {D : va_G} {H H1 : Heap} {ws : va_W} {b : Nat} (hP : va_P D vwCl ws H) (hb : H.size = b) (o1 : ∀ q, q < b → H1[q]? = H[q]?) : va_P D vwCl ws H1 := hP.kept (fun k x hx => o1 x.1 (by rw [← hb]; exact (hP k x hx).lt))
theorem jsmove {A : Nat → Prop} {H0 H H1 : Heap} {locs : List Loc} {b : Nat} (hS : va_S A H0 H locs) (hb : H.size = b) (z1 : H1.size = b + 1) (o1 : ∀ q, q < b → H1[q]? = H[q]?) : va_S A H0 H1 locs :=
  ⟨Nat.le_trans hS.1 (by omega), fun x h1 h2 => (o1 x (by have := hS.1; omega)).trans (hS.2.1 x h1 h2), hS.2.2⟩
theorem jpush {w : jW} {S S' : jX} {I I' : jI} {H1 : Heap} (hP : va_P w.2.2.1 vwCl (jws w S I) H1) (hn : S'.1 = S.1 + 1) (hk : ∀ k, k < S.1 → jcell w S' I' k = jcell w S I k) (he : va_at w.2.2.1 vwCl (w.1 + S.1, jcell w S' I' S.1) H1) : va_P w.2.2.1 vwCl (jws w S' I') H1 := by
  rw [← jws_push hn rfl hk]
  refine hP.app (fun k x hx => ?_)
  have hz : k < 1 := (List.getElem?_eq_some_iff.mp hx).1
  rw [show k = 0 by omega] at hx
  cases hx
  exact he
section JA
variable {G : jG} {d : Nat × Nat × Nat} {mt : jMt} {pc ix : Nat} {ls st : List Value} {S : jX} {I : jI} {k n : Nat}

theorem J_new {ci : Nat} (hd : decode mt.2.1 pc = .ok (.new ix, 3)) (hc : ci < 8) (hcl : Cond.classLink mt.1.cls ix (jC ci).1 ∈ jtw) (hin : Cond.instantiable (jC ci).1 (jC ci).2.2 ∈ jtw) (hini : Cond.initialized (jC ci).1 ∈ jtw) (hk1 : k + 1 ≤ d.2.1) (hn1 : n + (jC ci).2.2 ≤ d.2.2) (h : J G d mt (pc + 3) ls (.ref S.1 :: st) (jnS S ci 0) (jnI S I) (k + 1) (n + (jC ci).2.2)) : J G d mt pc ls st S I k n := by
  obtain ⟨⟨p, l, e, R, s, m⟩, ⟨args, below, meth, c⟩, w, Q⟩ := G
  intro hF H locs la hz hP hS hl
  obtain ⟨⟨hx, hb, hml, hown, hts⟩, hK, hsz, hlk, hnm, hfr, hbud, hrt⟩ := id hF
  have hKn := hK.1.1 ci _ (jC_at hc)
  refine W.newcK hx hb hown (hts _ hcl) (hts _ hin) (hts _ hini) rfl hd (by omega) (by omega) hKn.2.1 hz fun H1 kC hkC e1 z1 o1 => ?_
  refine h hF H1 locs la z1 (jpush (jmove hP hz o1) rfl (fun a ha => jcell_old ha) ?_) (jsmove hS hz z1 o1) hl
  rw [jcell_o (jKd_new S ci 0) hc]
  refine ⟨_, jC_at hc, (u_born (jty ci) hts (jC_in hc) hKn hkC e1 (jC_ty hc)).to (fun j hj => ?_)⟩
  have hv := jobj_at (w := w) (I := jnI S I) (jKd_new S ci 0) hj
  rw [jC_df hc j hj]
  simp only [vp_V, List.getD_eq_getElem?_getD, hv, Option.getD_some]
  have hr : (jnS S ci 0).2.2 S.1 j = none := by simp [jnS]
  have hi : jnI S I S.1 j = 0 := by simp [jnI]
  rw [hr, hi]
  rfl

theorem J_newI {x : Int32} {N : Nat} (hd : decode mt.2.1 pc = .ok (.newarray .int, 2)) (hw : Cond.arrayClass .int ∈ jtw) (hx0 : ¬ x < 0) (hN : x.toNatClampNeg = N) (hbytes : N * 8 ≤ 536870912) (hk1 : k + 1 ≤ d.2.1) (hn1 : n + N ≤ d.2.2) (h : J G d mt (pc + 2) ls (.ref S.1 :: st) (jnS S 8 N) (jnI S I) (k + 1) (n + N)) : J G d mt pc ls (.int x :: st) S I k n := by
  obtain ⟨⟨p, l, e, R, s, m⟩, ⟨args, below, meth, c⟩, w, Q⟩ := G
  intro hF H locs la hz hP hS hl
  obtain ⟨⟨hx, hb, hml, hown, hts⟩, hK, hsz, hlk, hnm, hfr, hbud, hrt⟩ := id hF
  have hcb : N * componentBytes (newarray.typeOf .int) ≤ 536870912 := Nat.le_trans (Nat.mul_le_mul_left N (show componentBytes .int ≤ 8 by decide)) hbytes
  refine va_newaK (atype := .int) hx hb (hts _ hw) rfl hd rfl hx0 hN hcb (by omega) (by omega) hz fun H1 cA e1 z1 o1 hAr hNm => ?_
  have hcA : cA = w.2.2.2 8 := Option.some.inj (hNm.symm.trans (hK.1.2 0 _ (jtys_i _)).2)
  subst hcA
  refine h hF H1 locs la z1 (jpush (jmove hP hz o1) rfl (fun a ha => jcell_old ha) ?_) (jsmove hS hz z1 o1) hl
  rw [jcell_i (jKd_new S 8 N) (by decide) (by decide)]
  show H1[w.1 + S.1]? = some (vp_cell _ _)
  rw [e1, vp_cell_i]
  have hi : (fun j => Value.int (jnI S I S.1 j)) = fun _ => defaultValue .int := by funext j; simp [jnI, defaultValue]
  rw [hi]
  rfl

theorem J_newC {x : Int32} {N : Nat} (hd : decode mt.2.1 pc = .ok (.newarray .char, 2)) (hw : Cond.arrayClass .char ∈ jtw) (hx0 : ¬ x < 0) (hN : x.toNatClampNeg = N) (hbytes : N * 8 ≤ 536870912) (hk1 : k + 1 ≤ d.2.1) (hn1 : n + N ≤ d.2.2) (h : J G d mt (pc + 2) ls (.ref S.1 :: st) (jnS S 9 N) (jnI S I) (k + 1) (n + N)) : J G d mt pc ls (.int x :: st) S I k n := by
  obtain ⟨⟨p, l, e, R, s, m⟩, ⟨args, below, meth, c⟩, w, Q⟩ := G
  intro hF H locs la hz hP hS hl
  obtain ⟨⟨hx, hb, hml, hown, hts⟩, hK, hsz, hlk, hnm, hfr, hbud, hrt⟩ := id hF
  have hcb : N * componentBytes (newarray.typeOf .char) ≤ 536870912 := Nat.le_trans (Nat.mul_le_mul_left N (show componentBytes .char ≤ 8 by decide)) hbytes
  refine va_newaK (atype := .char) hx hb (hts _ hw) rfl hd rfl hx0 hN hcb (by omega) (by omega) hz fun H1 cA e1 z1 o1 hAr hNm => ?_
  have hcA : cA = w.2.2.2 9 := Option.some.inj (hNm.symm.trans (hK.1.2 1 _ (jtys_c _)).2)
  subst hcA
  refine h hF H1 locs la z1 (jpush (jmove hP hz o1) rfl (fun a ha => jcell_old ha) ?_) (jsmove hS hz z1 o1) hl
  rw [jcell_i (jKd_new S 9 N) (by decide) (by decide)]
  show H1[w.1 + S.1]? = some (vp_cell _ _)
  rw [e1, vp_cell_i]
  have hi : (fun j => Value.int (jnI S I S.1 j)) = fun _ => defaultValue .char := by funext j; simp [jnI, defaultValue]
  rw [hi]
  rfl

theorem jtys_rA {t : Nat} (ca : Nat → ClassId) (h1 : 10 ≤ t) (h2 : t < 13) : (jtys ca)[t - 8]? = some (ca t, .object (match t with | 10 => RX0 | 11 => RX3 | _ => RX2)) := by
  match t, h1, h2 with
  | 10, _, _ => rfl
  | 11, _, _ => rfl
  | 12, _, _ => rfl
def jcomp (t : Nat) : Nat := match t with
  | 10 => 0
  | 11 => 3
  | _ => 2
theorem jtys_rC {t : Nat} (ca : Nat → ClassId) (h1 : 10 ≤ t) (h2 : t < 13) : (jtys ca)[t - 8]? = some (ca t, .object (jC (jcomp t)).1) := by
  match t, h1, h2 with
  | 10, _, _ => rfl
  | 11, _, _ => rfl
  | 12, _, _ => rfl
theorem jAO {w : jW} {U : State} {t : Nat} (h : jK w U) (h1 : 10 ≤ t) (h2 : t < 13) : va_AO (jC (jcomp t)).1 U := by
  match t, h1, h2 with
  | 10, _, _ => exact h.2.2.1.1
  | 11, _, _ => exact h.2.2.1.2.1
  | 12, _, _ => exact h.2.2.1.2.2

theorem J_anew {x : Int32} {N t : Nat} (hd : decode mt.2.1 pc = .ok (.anewarray ix, 3)) (h1 : 10 ≤ t) (h2 : t < 13) (hcl : Cond.classLink mt.1.cls ix (jC (jcomp t)).1 ∈ jtw) (hx0 : ¬ x < 0) (hN : x.toNatClampNeg = N) (hbytes : N * 4 ≤ 536870912) (hk1 : k + 1 ≤ d.2.1) (hn1 : n + N ≤ d.2.2) (h : J G d mt (pc + 3) ls (.ref S.1 :: st) (jnS S t N) (jnI S I) (k + 1) (n + N)) : J G d mt pc ls (.int x :: st) S I k n := by
  obtain ⟨⟨p, l, e, R, s, m⟩, ⟨args, below, meth, c⟩, w, Q⟩ := G
  intro hF H locs la hz hP hS hl
  obtain ⟨⟨hx, hb, hml, hown, hts⟩, hK, hsz, hlk, hnm, hfr, hbud, hrt⟩ := id hF
  subst hN
  refine W.anew hx hb hown (hts _ hcl) (va_AO.use (jAO hK h1 h2)) rfl hd rfl hx0 hbytes (by omega) (by omega) fun cA kA comp f1 f2 f3 f4 => ?_
  obtain ⟨kA', comp', r1, r2, r3, r4⟩ := (hK.1.2 (t - 8) _ (jtys_rC w.2.2.2 h1 h2)).2
  have hcA : cA = w.2.2.2 t := Option.some.inj (f1.symm.trans r4)
  subst hcA
  rw [hz]
  generalize hH1 : H.push ({ cls := w.2.2.2 t, slots := Array.replicate x.toNatClampNeg .null, vm := .none } : Cell) = H1
  have z1 : H1.size = w.1 + S.1 + 1 := by rw [← hH1, Array.size_push, hz]
  have e1 : H1[w.1 + S.1]? = some (arrV (w.2.2.2 t) x.toNatClampNeg (fun _ => .null)) := by rw [← hH1, ← hz, Array.getElem?_push_size, ← arrV_new]
  have o1 : ∀ q : Nat, q < w.1 + S.1 → H1[q]? = H[q]? := fun q hq => by rw [← hH1, Array.getElem?_push, if_neg (by omega)]
  refine h hF H1 locs la z1 (jpush (jmove hP hz o1) rfl (fun a ha => jcell_old ha) ?_) (jsmove hS hz z1 o1) hl
  rw [jcell_r (jKd_new S t _) h1]
  show H1[w.1 + S.1]? = some (vp_cell _ _)
  rw [e1, vp_cell_q]
  have hi : (fun j => va_rf (jq w ((jnS S t x.toNatClampNeg).2.2 S.1 j))) = fun _ => Value.null := by funext j; simp [jnS, jq, va_rf]
  rw [hi]
theorem jws_putR {w : jW} {S : jX} {I : jI} {o ci j q : Nat} (hk : jKd S o ci 0) (hc : ci < 8) (hj : j < (jC ci).2.2) (hr : jrf ci j = true) : (jws w S I).set o (w.1 + o, .inr (ci, (jobj w S I o).set j (.ref (w.1 + q)))) = jws w (jsetR S o j q) I := by
  have hk' : jKd (jsetR S o j q) o ci 0 := hk
  refine jws_set rfl ?_ (fun a ha hne => ?_)
  · rw [jcell_o hk' hc]
    congr 2
    apply List.ext_getElem?
    intro b
    by_cases hb : b < (jC ci).2.2
    · rw [jobj_at hk' hb]
      by_cases hbj : j = b
      · subst hbj
        rw [List.getElem?_set_self (by rw [jobj_len hk]; exact hj)]
        simp [hr, jsetR, jq, va_rf]
      · rw [List.getElem?_set_ne hbj, jobj_at hk hb]
        have hne : ¬ (o = o ∧ b = j) := fun h => hbj h.2.symm
        have h9 : (jsetR S o j q).2.2 o b = S.2.2 o b := if_neg hne
        rw [h9]
    · rw [List.getElem?_eq_none (by rw [List.length_set, jobj_len hk]; omega), List.getElem?_eq_none (by rw [jobj_len hk']; omega)]
  · have hf : (jsetR S o j q).2.2 a = S.2.2 a := by funext b; simp [jsetR, hne]
    have hg : (jsetR S o j q).2.1 = S.2.1 := rfl
    simp only [jcell, jobj, hf, hg]

theorem J_putR {ci j o q : Nat} (hd : decode mt.2.1 pc = .ok (.putfield ix, 3)) (hf : jFL mt.1.cls ix ci j) (hr : jrf ci j = true) (hfin : ((jC ci).2.1 j).2.2.2 = true) (hini : mt.1.name = "<init>") (hdecl : ((jC ci).2.1 j).1 = mt.1.cls) (hw : Cond.fieldLink mt.1.cls ix ((jC ci).2.1 j).1 ((jC ci).2.1 j).2.1 ((jC ci).2.1 j).2.2.1 ∈ jtw) (hn : ∀ a : Nat, narrow (jty ci j) (.ref a) = .ref a) (hfit : ∀ a : Nat, fits (jty ci j) (.ref a) = true) (hk : jKd S o ci 0) (h : J G d mt (pc + 3) ls st (jsetR S o j q) I k n) : J G d mt pc ls (.ref q :: .ref o :: st) S I k n := by
  obtain ⟨⟨p, l, e, R, s, m⟩, ⟨args, below, meth, c⟩, w, Q⟩ := G
  intro hF H locs la hz hP hS hl
  obtain ⟨⟨hx, hb, hml, hown, hts⟩, hK, hsz, hlk, hnm, hfr, hbud, hrt⟩ := id hF
  have he := jws_at w S I hk.1
  rw [jcell_o hk hf.1] at he
  refine jput (v := .ref (w.1 + q)) hx hb hown hts hK hP (jws_D w S I) hS hf he (by rw [jobj_len hk]; exact hf.2.1) (Or.inr ⟨hfin, hnm.trans hini, hdecl, hw⟩) (hn _) (hfit _) hd (fun H1 locs1 hz1 hP1 hS1 => ?_)
  rw [jws_putR hk hf.1 hf.2.1 hr] at hP1
  exact h hF H1 locs1 la (hz1.trans hz) hP1 hS1 hl
theorem jws_stR {w : jW} {S : jX} {I : jI} {o t N j q : Nat} (hk : jKd S o t N) (h1 : 10 ≤ t) : (jws w S I).set o (w.1 + o, .inl (w.2.2.2 t, N, .inr (.inr (.inr (.inr (va_up (fun b => jq w (S.2.2 o b)) j (some (w.1 + q)))))))) = jws w (jsetR S o j q) I := by
  have hk' : jKd (jsetR S o j q) o t N := hk
  refine jws_set rfl ?_ (fun a ha hne => ?_)
  · rw [jcell_r hk' h1]
    have hf : (va_up (fun b => jq w (S.2.2 o b)) j (some (w.1 + q))) = fun b => jq w ((jsetR S o j q).2.2 o b) := by
      funext b
      by_cases hb : b = j
      · subst hb; simp [va_up, jsetR, jq]
      · simp [va_up, jsetR, hb]
    rw [hf]
  · have hf : (jsetR S o j q).2.2 a = S.2.2 a := by funext b; simp [jsetR, hne]
    have hg : (jsetR S o j q).2.1 = S.2.1 := rfl
    simp only [jcell, jobj, hf, hg]

theorem J_aastore {o t N q : Nat} {i : Int32} (hd : decode mt.2.1 pc = .ok (.aastore, 1)) (hk : jKd S o t N) (h1 : 10 ≤ t) (h2 : t < 13) (hq : jKd S q (jcomp t) 0) (hi : vp_in i N) (h : J G d mt (pc + 1) ls st (jsetR S o i.toNatClampNeg q) I k n) : J G d mt pc ls (.ref q :: .int i :: .ref o :: st) S I k n := by
  obtain ⟨⟨p, l, e, R, s, m⟩, ⟨args, below, meth, c⟩, w, Q⟩ := G
  intro hF H locs la hz hP hS hl
  obtain ⟨⟨hx, hb, hml, hown, hts⟩, hK, hsz, hlk, hnm, hfr, hbud, hrt⟩ := id hF
  have he := jws_at w S I hk.1
  rw [jcell_r hk h1] at he
  have hc8 : jcomp t < 8 := by
    match t, h1, h2 with
    | 10, _, _ => decide
    | 11, _, _ => decide
    | 12, _, _ => decide
  have hv := jws_at w S I hq.1
  rw [jcell_o hq hc8] at hv
  have ht := jtys_rC w.2.2.2 h1 h2
  have hlt : i.toNatClampNeg < N := Nat.not_le.mp fun q => hi (Or.inr q)
  have h0 : ¬ i < 0 := fun q => hi (Or.inl q)
  obtain ⟨r', hr', cellV, g1, g2, g3, -⟩ := hP q _ hv
  have hcls := (hK.1.1 (jcomp t) _ (jC_at hc8)).2
  obtain ⟨kA, comp, k1, k2, k3, -⟩ := (hK.1.2 (t - 8) _ ht).2
  have hcomp : comp = w.2.2.1.1 (jcomp t) := Option.some.inj (k3.symm.trans hcls.1)
  subst hcomp
  obtain ⟨kC, hkC, -⟩ := hcls.2
  refine W.aast hx hb (hP o _ he) (fun q h => by cases h) (fun h => by cases h) k1 k2 rfl hkC ⟨h0, by show _ < (arrV _ _ _).slots.size; rw [arrV_size]; exact hlt⟩ g1 (fun q h => by rw [g3] at h; cases h) (by rw [g2]; exact hkC) (by rw [g2]; exact va_assign hcls) rfl rfl hd fun H1 e1 z oq => ?_
  have hP1 : va_P w.2.2.1 vwCl ((jws w S I).set o (w.1 + o, .inl (w.2.2.2 t, N, .inr (.inr (.inr (.inr (va_up (fun b => jq w (S.2.2 o b)) i.toNatClampNeg (some (w.1 + q))))))))) H1 := by
    refine hP.set (jws_D w S I) he ?_ oq
    show H1[w.1 + o]? = some (vp_cell _ _)
    rw [e1, vp_cell_q, vp_cell_q, arrV_store]
    congr 2
    funext b
    by_cases hb : b = i.toNatClampNeg
    · subst hb
      simp [updV, va_up, va_rf]
    · simp [updV, va_up, hb]
  rw [jws_stR hk h1] at hP1
  exact h hF H1 _ la (z.trans hz) hP1 (hS.put z oq (show w.1 ≤ w.1 + o by omega)) hl
end JA

