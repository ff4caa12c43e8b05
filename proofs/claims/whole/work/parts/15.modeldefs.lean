/-- the reference: its rows, cell by cell -/
def jModel (S : jX) (o : Nat) : Prop := jKd S o 7 0 ∧ (S.2.2 o 0 = some (o + 1) ∧ S.2.2 o 1 = some (o + 2) ∧ S.2.2 o 2 = some (o + 3) ∧ S.2.2 o 4 = some (o + 4)) ∧ (jKd S (o + 1) 8 141 ∧ jKd S (o + 2) 8 141 ∧ jKd S (o + 3) 8 564 ∧ jKd S (o + 4) 8 60)
theorem jModel.r0 {S : jX} {o : Nat} (h : jModel S o) : S.2.2 o 0 = some (o + 1) := h.2.1.1
theorem jModel.r1 {S : jX} {o : Nat} (h : jModel S o) : S.2.2 o 1 = some (o + 2) := h.2.1.2.1
theorem jModel.r2 {S : jX} {o : Nat} (h : jModel S o) : S.2.2 o 2 = some (o + 3) := h.2.1.2.2.1
theorem jModel.r3 {S : jX} {o : Nat} (h : jModel S o) : S.2.2 o 4 = some (o + 4) := h.2.1.2.2.2
theorem jModel.a0 {S : jX} {o : Nat} (h : jModel S o) : jKd S (o + 1) 8 141 := h.2.2.1
theorem jModel.a1 {S : jX} {o : Nat} (h : jModel S o) : jKd S (o + 2) 8 141 := h.2.2.2.1
theorem jModel.a2 {S : jX} {o : Nat} (h : jModel S o) : jKd S (o + 3) 8 564 := h.2.2.2.2.1
theorem jModel.a3 {S : jX} {o : Nat} (h : jModel S o) : jKd S (o + 4) 8 60 := h.2.2.2.2.2
/-- the number of a boiler's row, of an inspector's row; 0 or 1 -/
def jB8 (b : Int32) : Prop := ∃ i : Nat, i < 8 ∧ b = nI i
def jB6 (b : Int32) : Prop := ∃ i : Nat, i < 6 ∧ b = nI i
def jB2 (b : Int32) : Prop := b = 0 ∨ b = 1
theorem jlin (a c i k N : Nat) (h : a + c * i + k < N) (hN : N < 2 ^ 31) : vp_in (nI a + nI c * nI i + nI k) N := by
  rw [pk_mul, nI_add, nI_add]
  exact vp_in_nI h hN
theorem jlin_n (a c i k N : Nat) (h : a + c * i + k < N) (hN : N < 2 ^ 31) : (nI a + nI c * nI i + nI k).toNatClampNeg = a + c * i + k := by
  rw [pk_mul, nI_add, nI_add]
  exact nI_clamp (by omega)
theorem jofv {b w : Int32} (hb : jB8 b) {k : Nat} (hw : w = nI k) (hk : k < 12) : vp_in (15 + 12 * b + w) 141 := by
  obtain ⟨i, hi, rfl⟩ := hb
  subst hw
  exact jlin 15 12 i k 141 (by omega) (by decide)
theorem jbyv {b w : Int32} (hb : jB6 b) {k : Nat} (hw : w = nI k) (hk : k < 5) : vp_in (111 + 5 * b + w) 141 := by
  obtain ⟨i, hi, rfl⟩ := hb
  subst hw
  exact jlin 111 5 i k 141 (by omega) (by decide)
theorem jv7 {b : Int32} (h : jB2 b) : vp_in (7 + b) 141 := by rcases h with rfl | rfl <;> (unfold vp_in; decide)
theorem jv11 {b : Int32} (h : jB2 b) : vp_in (11 + b) 141 := by rcases h with rfl | rfl <;> (unfold vp_in; decide)
/-- what the reference's numbers always are -/
def jMInv (I : jI) (o : Nat) : Prop := (∃ n : Nat, n ≤ 8 ∧ I (o + 1) 0 = nI n) ∧ (∃ m : Nat, m ≤ 6 ∧ I (o + 1) 1 = nI m) ∧ ∀ j : Nat, j < 6 → jB2 (I (o + 1) (111 + 5 * j))
