/-! EVERY CALL: what the class's call wants, equal answers, and the invariant again -/
section MI
variable {I : jI} {o : Nat} {x y z : Int32}
theorem jMInv.ibx (h : jMInv I o) (hx : ¬ fX7_isBoiler I o x = 0) : jB8 x := by
  obtain ⟨⟨n, hn, e⟩, -⟩ := h
  unfold fX7_isBoiler at hx
  rw [lc_0, e] at hx
  unfold fX7_in at hx
  by_cases c1 : x < 0
  · rw [if_pos c1] at hx; exact absurd rfl hx
  · obtain ⟨i, hi, rfl⟩ := nI_of c1
    rw [if_neg c1] at hx
    match n, hn with
    | 0, _ =>
      rw [if_pos (show (nI 0 - 1 : Int32) < nI i by
        rw [Int32.lt_iff_toInt_lt, nI_toInt hi]
        exact Int.lt_of_lt_of_le (by decide) (Int.natCast_nonneg i))] at hx
      exact absurd rfl hx
    | m + 1, hn =>
      rw [nI_pred m] at hx
      by_cases c2 : i ≤ m
      · exact ⟨i, by omega, rfl⟩
      · rw [if_pos (nI_lt (by omega) (by omega))] at hx
        exact absurd rfl hx
theorem inv_press (h : jMInv I o) : jMInv (m_press I o x y).2 o := by
  unfold m_press
  split
  · exact h
  · rename_i hx
    have hb := h.ibx hx
    split
    · exact h
    · split
      · split
        · exact h.lay hb (k := 1) rfl (by decide)
        · exact h
      · exact h.lay hb (k := 1) rfl (by decide)
theorem inv_plan (h : jMInv I o) : jMInv (m_plan I o x y z).2 o := by
  unfold m_plan
  split
  · exact h
  · rename_i hx
    have hb := h.ibx hx
    have h2 := (h.lay (v := y) hb (w := 7) (k := 7) rfl (by decide)).lay (v := (y + z) - 1) hb (w := 8) (k := 8) rfl (by decide)
    split
    · exact h
    · split
      · exact h
      · split
        · split
          · exact h
          · exact h2
        · exact h2
theorem in_b {I : jI} {x : Int32} {m : Nat} {w : Int32} (hw : w = nI m) (hm : m < 2 ^ 31) (h : ¬ fX7_in I x 0 w = 0) : ∃ j : Nat, j ≤ m ∧ x = nI j := by
  subst hw
  unfold fX7_in at h
  by_cases c1 : x < 0
  · rw [if_pos c1] at h; exact absurd rfl h
  · rw [if_neg c1] at h
    obtain ⟨i, hi, rfl⟩ := nI_of c1
    by_cases c2 : i ≤ m
    · exact ⟨i, c2, rfl⟩
    · rw [if_pos (nI_lt (by omega) hi)] at h; exact absurd rfl h
theorem inv_set (h : jMInv I o) : jMInv (m_set I o x y).2 o := by
  unfold m_set
  split
  · exact h
  · rename_i hx
    obtain ⟨j, hj, rfl⟩ := in_b (m := 3) rfl (by decide) hx
    have e : (7 + nI j).toNatClampNeg = 7 + j := by
      rw [show (7 : Int32) = nI 7 from rfl, nI_add]
      exact nI_clamp (by omega)
    have h2 : jMInv (jset I (o + 1) (7 + nI j).toNatClampNeg y) o := by
      rw [e]
      exact h.put ⟨by omega, by omega, fun k hk => by omega⟩
    split
    · split
      · exact h
      · exact h2
    · split
      · exact h
      · exact h2
theorem inv_put1 (h : jMInv I o) {m : Nat} (hm : m ≤ 6) (hx : x = nI m) : jMInv (jset I (o + 1) 1 x) o := by
  obtain ⟨h1, h2, h3⟩ := h
  exact ⟨by rw [jset_nj (by decide)]; exact h1, ⟨m, hm, by rw [jset_eq]; exact hx⟩, fun j hj => by rw [jset_nj (by omega)]; exact h3 j hj⟩
theorem inv_putI (h : jMInv I o) {j : Nat} (hj : j < 6) (hx : jB2 x) : jMInv (jset I (o + 1) (111 + 5 * j + 0) x) o := by
  obtain ⟨h1, h2, h3⟩ := h
  refine ⟨by rw [jset_nj (by omega)]; exact h1, by rw [jset_nj (by omega)]; exact h2, fun k hk => ?_⟩
  by_cases c : k = j
  · subst c
    show jB2 (jset I (o + 1) (111 + 5 * k + 0) x (o + 1) (111 + 5 * k + 0))
    rw [jset_eq]; exact hx
  · rw [jset_nj (by omega)]; exact h3 k hk
theorem inv_inspector (h : jMInv I o) : jMInv (m_inspector I o x y).2 o := by
  unfold m_inspector
  split
  · exact h
  · rename_i hx
    split
    · exact h
    · split
      · exact h
      · rename_i h6
        obtain ⟨i, hi, rfl⟩ := in_b (m := 1) rfl (by decide) hx
        have hb : jB2 (nI i) := by
          rcases (show i = 0 ∨ i = 1 by omega) with rfl | rfl
          · exact Or.inl rfl
          · exact Or.inr rfl
        obtain ⟨m, hm, e⟩ := id h.2.1
        have m6 : m < 6 := by
          rcases Nat.lt_or_ge m 6 with c | c
          · exact c
          · exact absurd (by rw [lc_1, e, show m = 6 by omega]; rfl) h6
        simp only [lc_1, e, jbyn (j := m) (k := 0) (w := 0) m6 rfl (by decide), jbyn (j := m) (k := 1) (w := 1) m6 rfl (by decide), jbyn (j := m) (k := 2) (w := 2) m6 rfl (by decide), jbyn (j := m) (k := 3) (w := 3) m6 rfl (by decide), jbyn (j := m) (k := 4) (w := 4) m6 rfl (by decide)]
        refine inv_put1 ?_ (m := m + 1) (by omega) ?_
        · refine jMInv.put ?_ ⟨by omega, by omega, fun k hk => by omega⟩
          refine jMInv.put ?_ ⟨by omega, by omega, fun k hk => by omega⟩
          refine jMInv.put ?_ ⟨by omega, by omega, fun k hk => by omega⟩
          refine jMInv.put ?_ ⟨by omega, by omega, fun k hk => by omega⟩
          exact inv_putI h m6 hb
        · rw [jset_nj (by omega), jset_nj (by omega), jset_nj (by omega), jset_nj (by omega), jset_nj (by omega), e, nI_1]
end MI
section CA
variable {I : jI} {m : Nat} {p : Int32 × jI}
/-- the reference's cells behind the class's act -/
theorem settle_hi (hI : Inv I) (hp : ∀ a, (a < 20 ∨ 39 ≤ a) → a ≠ 117 → a ≠ 119 → p.2 a = I a) (hm4 : m < 4) (hR : ∃ s, R p.2 20 s) {a : Nat} (ha : 120 ≤ a) : (fX6_settle p.2 p.1 m).2 a = I a := by
  have P1 : R p.2 1 (I 121) := hI.1.cg (fun a _ _ => hp a (by omega) (by omega) (by omega)) (fun _ _ => rfl)
  obtain ⟨s, hR⟩ := hR
  have k20 : R (fX1_keep p.2 39 1 m) 20 s := hR.cg (fun a _ _ => keep_a P1 (by omega) (by omega)) (fun _ _ => rfl)
  unfold fX6_settle
  split
  · show fX2_copyFrom (fX1_keep p.2 39 1 m) 1 20 a = I a
    rw [cp_a k20 (by omega), keep_a P1 (by omega) (by omega), hp a (by omega) (by omega) (by omega)]
  · exact hp a (by omega) (by omega) (by omega)
/-- an act of the class, and the reference's f behind it -/
def CallOk (I : jI) (p : Int32 × jI) (f : jI → Int32 × jI) : Prop :=
  ∃ m, m < 4 ∧ I 39 2 = nI m ∧ jSet p.2 p.1 m ∧ (∀ a, 120 ≤ a → (fX6_settle p.2 p.1 m).2 a = I a) ∧ (fX6_settle p.2 p.1 m).1 = (fX7_acted (f (fX7_begins (fX6_settle p.2 p.1 m).2 120)).2 120 (f (fX7_begins (fX6_settle p.2 p.1 m).2 120)).1).1 ∧ Inv (fX7_acted (f (fX7_begins (fX6_settle p.2 p.1 m).2 120)).2 120 (f (fX7_begins (fX6_settle p.2 p.1 m).2 120)).1).2
theorem call_act (hI : Inv I) {f : jI → Int32 × jI} (hf : ∀ J : jI, J 121 = I 121 → OPC (fX2_copyFrom I 20 1) J 20 120 p (f J) ∧ mR ((f J).2 121)) : CallOk I p f := by
  obtain ⟨n, m, hn, hm, e1, e2, e3, hs⟩ := id hI.2.2.1
  have c0 := (hf I rfl).1
  have hp : ∀ a, (a < 20 ∨ 39 ≤ a) → a ≠ 117 → a ≠ 119 → p.2 a = I a := fun a ha _ _ => by
    rw [c0.2.2.1 a (by omega), cp_a hI.1 (by omega)]
  have hi : ∀ a, 120 ≤ a → (fX6_settle p.2 p.1 m).2 a = I a := fun a ha => settle_hi hI hp hm ⟨_, c0.2.1⟩ ha
  have j1 : fX7_begins (fX6_settle p.2 p.1 m).2 120 121 = I 121 := by rw [beg_a (by decide), hi 121 (by decide)]
  obtain ⟨c1, c2⟩ := hf _ j1
  have q120 : (f (fX7_begins (fX6_settle p.2 p.1 m).2 120)).2 120 = fX7_begins (fX6_settle p.2 p.1 m).2 120 120 := c1.2.2.2 120 (by decide)
  obtain ⟨a1, a2, a3⟩ := act_ok (q := f (fX7_begins (fX6_settle p.2 p.1 m).2 120)) hI hm e2 hp (by rw [c0.2.2.1 117 (by omega), cp_a hI.1 (by omega)]) c1.1 (fun _ => ⟨c1.2.1, c2⟩) (fun a h1 _ => c1.2.2.2 a h1) (by rw [q120]) (by rw [q120])
  exact ⟨m, hm, e2, a1, hi, a2, a3⟩
theorem cR (hI : Inv I) {J : jI} (j1 : J 121 = I 121) : R (fX2_copyFrom I 20 1) 20 (J (120 + 1)) := by
  show R (fX2_copyFrom I 20 1) 20 (J 121)
  rw [j1]
  exact cp_R (Or.inr (by omega)) hI.1
theorem cM (hI : Inv I) {J : jI} (j1 : J 121 = I 121) : jMInv J 120 := by
  show mR (J 121)
  rw [j1]
  exact hI.2.1
theorem c_boiler (hI : Inv I) (x : Int32) : CallOk I (fX2_addBoiler (fX2_copyFrom I 20 1) 20 x) (fun J => fX7_comes J 120 x) :=
  call_act hI (fun J j1 => ⟨o_boiler (o := 120) (cR hI j1) x, (cM hI j1).comes⟩)
theorem c_inspector (hI : Inv I) (x y : Int32) : CallOk I (fX2_addInspector (fX2_copyFrom I 20 1) 20 x y) (fun J => m_inspector J 120 x y) :=
  call_act hI (fun J j1 => ⟨o_inspector (o := 120) (cR hI j1) x y, inv_inspector (cM hI j1)⟩)
theorem c_press (hI : Inv I) (x y : Int32) : CallOk I (fX2_changePressure (fX2_copyFrom I 20 1) 20 x y) (fun J => m_press J 120 x y) :=
  call_act hI (fun J j1 => ⟨o_press (o := 120) (cR hI j1) x y, inv_press (cM hI j1)⟩)
theorem c_inspect (hI : Inv I) (x y : Int32) : CallOk I (fX2_examine (fX2_copyFrom I 20 1) 20 x y) (fun J => fX7_inspects J 120 x y) :=
  call_act hI (fun J j1 => ⟨o_inspect (o := 120) (cR hI j1) x y, (cM hI j1).inspects⟩)
theorem c_fire (hI : Inv I) (x : Int32) : CallOk I (fX2_light (fX2_copyFrom I 20 1) 20 x) (fun J => fX7_fires J 120 x) :=
  call_act hI (fun J j1 => ⟨o_fire (o := 120) (cR hI j1) x, (cM hI j1).fires⟩)
theorem c_out (hI : Inv I) (x : Int32) : CallOk I (fX2_putOut (fX2_copyFrom I 20 1) 20 x) (fun J => fX7_puts J 120 x) :=
  call_act hI (fun J j1 => ⟨o_out (o := 120) (cR hI j1) x, (cM hI j1).puts⟩)
theorem c_plan (hI : Inv I) (x y z : Int32) : CallOk I (fX2_planShutdown (fX2_copyFrom I 20 1) 20 x y z) (fun J => m_plan J 120 x y z) :=
  call_act hI (fun J j1 => ⟨o_plan (o := 120) (cR hI j1) x y z, inv_plan (cM hI j1)⟩)
theorem c_repair (hI : Inv I) (x : Int32) : CallOk I (fX2_sendToRepair (fX2_copyFrom I 20 1) 20 x) (fun J => fX7_sends J 120 x) :=
  call_act hI (fun J j1 => ⟨o_repair (o := 120) (cR hI j1) x, (cM hI j1).sends⟩)
theorem c_pass (hI : Inv I) (x : Int32) : CallOk I (fX2_letWeeksPass (fX2_copyFrom I 20 1) 20 x) (fun J => fX7_passes J 120 x) :=
  call_act hI (fun J j1 => ⟨o_pass (o := 120) (cR hI j1) x, (cM hI j1).passes⟩)
theorem c_set (hI : Inv I) (x y : Int32) : CallOk I (fX2_changeSetting (fX2_copyFrom I 20 1) 20 x y) (fun J => m_set J 120 x y) :=
  call_act hI (fun J j1 => ⟨o_set (o := 120) (cR hI j1) x y, inv_set (cM hI j1)⟩)
end CA
