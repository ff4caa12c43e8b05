/-! THE LAW'S ENTRY: what is known there -/
set_option maxRecDepth 100000 in
theorem ta_0 : Cond.arrayOver (.object RX0) ∈ lw_tbl := List.mem_of_getElem? (i := 83) (by decide +kernel)
set_option maxRecDepth 100000 in
theorem ta_3 : Cond.arrayOver (.object RX3) ∈ lw_tbl := List.mem_of_getElem? (i := 85) (by decide +kernel)
set_option maxRecDepth 100000 in
theorem ta_2 : Cond.arrayOver (.object RX2) ∈ lw_tbl := List.mem_of_getElem? (i := 204) (by decide +kernel)
set_option maxRecDepth 100000 in
theorem ta_s : Cond.laysStatic RX6 "GREATEST_SETTINGS" "[I" ∈ lw_tbl := List.mem_of_getElem? (i := 504) (by decide +kernel)
theorem jtw_t {x : Cond} (h : x ∈ jtw) : x ∈ lw_tbl := (List.mem_filter.mp h).1
theorem st_inst {c : Nat} (h : c < 8) : Cond.instantiable (jC c).1 (jC c).2.2 ∈ jtw :=
  jlt8 (P := fun c => Cond.instantiable (jC c).1 (jC c).2.2 ∈ jtw) jw_29 jw_141 jw_20 jw_90 jw_160 jw_193 jw_12 jw_700 h
theorem st_arr {s : State} {args : Array Value} {C : String} (h : (Cond.arrayOver (.object C)).before args s = true) : ∃ cA : ClassId, ArrOfT s cA (.object C) ∧ va_RA s cA (.object C) := by
  obtain ⟨comp, c, k, h1, h2, h3, h4, h5⟩ := Cond.arrayOver_spec h
  exact ⟨c, fun N z => ⟨(fun k h => by cases h), k, h3, comp, h4⟩, k, comp, h3, h4, h1, h5⟩
theorem st_ai {s : State} {args : Array Value} (h : (Cond.arrayClass .int).before args s = true) : ∃ cA : ClassId, ArrOfT s cA .int ∧ va_RA s cA .int := by
  obtain ⟨c, k, comp, h1, h2, h3⟩ := Cond.arrayClass_spec h
  exact ⟨c, fun N z => ⟨(fun k h => by cases h), k, h2, comp, h3⟩, h1⟩
theorem st_ac {s : State} {args : Array Value} (h : (Cond.arrayClass .char).before args s = true) : ∃ cA : ClassId, ArrOfT s cA .char ∧ va_RA s cA .char := by
  obtain ⟨c, k, comp, h1, h2, h3⟩ := Cond.arrayClass_spec h
  exact ⟨c, fun N z => ⟨(fun k h => by cases h), k, h2, comp, h3⟩, h1⟩
theorem st_vwCl {c : Nat} {q : vw_C} (h : vwCl[c]? = some q) : c < 8 ∧ q = jC c := by
  have h8 : c < 8 := (List.getElem?_eq_some_iff.mp h).1
  rw [jC_at h8] at h
  exact ⟨h8, (Option.some.inj h).symm⟩
theorem st_K {s : State} {args : Array Value} (hts : ∀ w ∈ lw_tbl, w.before args s = true) : ∃ (D : va_G) (ca : Nat → ClassId), va_K D vwCl (jtys ca) s := by
  have hts' : ∀ w ∈ jtw, w.before args s = true := fun w hw => hts w (jtw_t hw)
  have h : ∀ c, ∃ (cC : ClassId) (iS : Nat → Nat), c < 8 → u_Kn s (jC c).1 (jC c).2.1 (jC c).2.2 cC iS := by
    intro c
    by_cases hc : c < 8
    · obtain ⟨cC, iS, h⟩ := u_known hts' (jC_in hc) (hts' _ (st_inst hc))
      exact ⟨cC, iS, fun _ => h⟩
    · exact ⟨0, fun _ => 0, fun q => absurd q hc⟩
  obtain ⟨a8, b8⟩ := st_ai (hts' _ jw_89)
  obtain ⟨a9, b9⟩ := st_ac (hts' _ jw_191)
  obtain ⟨a10, b10⟩ := st_arr (hts _ ta_0)
  obtain ⟨a11, b11⟩ := st_arr (hts _ ta_3)
  obtain ⟨a12, b12⟩ := st_arr (hts _ ta_2)
  refine ⟨(fun c => Classical.choose (h c), fun c => Classical.choose (Classical.choose_spec (h c))), fun k => match k with | 8 => a8 | 9 => a9 | 10 => a10 | 11 => a11 | _ => a12, fun c q hq => ?_, fun k q hq => ?_⟩
  · obtain ⟨h8, rfl⟩ := st_vwCl hq
    exact Classical.choose_spec (Classical.choose_spec (h c)) h8
  · match k, hq with
    | 0, hq => cases hq; exact b8
    | 1, hq => cases hq; exact b9
    | 2, hq => cases hq; exact b10
    | 3, hq => cases hq; exact b11
    | 4, hq => cases hq; exact b12
    | k + 5, hq => simp [jtys] at hq
theorem st_N : ∀ x ∈ jnw, x ∈ lw_tbl := by
  intro x hx
  simp only [jnw, List.mem_cons, List.not_mem_nil, or_false] at hx
  rcases hx with rfl | rfl | rfl | rfl | rfl | rfl | rfl | rfl | rfl | rfl | rfl | rfl | rfl | rfl | rfl | rfl | rfl | rfl | rfl | rfl | rfl | rfl | rfl | rfl
  · exact jw_30_t
  · exact jw_35_t
  · exact jw_37_t
  · exact jw_39_t
  · exact jw_41_t
  · exact jw_44_t
  · exact jw_46_t
  · exact jw_48_t
  · exact jw_51_t
  · exact jw_53_t
  · exact jw_55_t
  · exact jw_57_t
  · exact jw_59_t
  · exact jw_91_t
  · exact jw_96_t
  · exact jw_161_t
  · exact jw_167_t
  · exact jw_170_t
  · exact jw_172_t
  · exact jw_174_t
  · exact jw_194_t
  · exact jw_296_t
  · exact jw_446_t
  · exact jw_676_t
set_option maxRecDepth 100000 in
theorem st_S {s : State} {args : Array Value} (hgv : (Jvm.Cond.and given_1 narrow_1).before args s = true) : ∃ t : Nat, (Term.static RX6 "GREATEST_SETTINGS" "[I").eval args s none [] s = some (.ref t) ∧ va_T .int t 4 (fun j => .int (jgs j)) (fun q => s.heap.size ≤ q) s s.heap := by
  have hs := flat_of_before _ hgv
  refine va_Tof (by decide) (hs (Cond.arrayOf (.static "BoilerPapers" "GREATEST_SETTINGS" "[I") .int) (by decide +kernel)) (va_eqt (hs (Cond.eq (.length (.static "BoilerPapers" "GREATEST_SETTINGS" "[I")) (.int 4)) (by decide +kernel))) (fun j hj => ?_) (fun a ha => Nat.not_le.mpr ha)
  match j, hj with
  | 0, _ => exact va_eqt (hs (Cond.eq (.elem (.static "BoilerPapers" "GREATEST_SETTINGS" "[I") (.int 0)) (.int 200)) (by decide +kernel))
  | 1, _ => exact va_eqt (hs (Cond.eq (.elem (.static "BoilerPapers" "GREATEST_SETTINGS" "[I") (.int 1)) (.int 200)) (by decide +kernel))
  | 2, _ => exact va_eqt (hs (Cond.eq (.elem (.static "BoilerPapers" "GREATEST_SETTINGS" "[I") (.int 2)) (.int 99)) (by decide +kernel))
  | 3, _ => exact va_eqt (hs (Cond.eq (.elem (.static "BoilerPapers" "GREATEST_SETTINGS" "[I") (.int 3)) (.int 99)) (by decide +kernel))
theorem st_jK {s : State} {args : Array Value} (b : Nat) (hts : ∀ w ∈ lw_tbl, w.before args s = true) (hgv : (Jvm.Cond.and given_1 narrow_1).before args s = true) : ∃ w : jW, w.1 = s.heap.size ∧ w.2.1 1 = b ∧ jK w s := by
  obtain ⟨D, ca, hK⟩ := st_K hts
  obtain ⟨t, ht, hT⟩ := st_S hgv
  refine ⟨(s.heap.size, (fun k => if k = 0 then t else b), D, ca), rfl, rfl, hK, fun x hx => ?_, ⟨va_AO.of (hts _ ta_0), va_AO.of (hts _ ta_3), va_AO.of (hts _ ta_2)⟩, ?_, hT⟩
  · have hn := List.all_eq_true.mp jnw_ok x hx
    have hb := hts x (st_N x hx)
    cases x <;> first | exact va_Nw.of rfl hb | cases hn
  · exact va_Zref (hts _ ta_s) (hts _ (jtw_t jw_1)) ht (fun a ha => Nat.not_le.mpr ha)
