/-- a house: its rows, its boilers and inspectors, cell by cell -/
def jHouse (S : jX) (o : Nat) : Prop := jKd S o 2 0 ∧ (S.2.2 o 0 = some (o + 1) ∧ S.2.2 o 1 = some (o + 2) ∧ S.2.2 o 2 = some (o + 3) ∧ S.2.2 o 3 = some (o + 4)) ∧ (jKd S (o + 1) 10 8 ∧ jKd S (o + 2) 11 6 ∧ jKd S (o + 3) 8 4 ∧ jKd S (o + 4) 8 4) ∧ (∀ i, i < 8 → jKd S (o + 5 + i) 0 0 ∧ S.2.2 (o + 1) i = some (o + 5 + i)) ∧ (∀ i, i < 6 → jKd S (o + 13 + i) 3 0 ∧ S.2.2 (o + 2) i = some (o + 13 + i))
theorem jHouse.r0 {S : jX} {o : Nat} (h : jHouse S o) : S.2.2 o 0 = some (o + 1) := h.2.1.1
theorem jHouse.r1 {S : jX} {o : Nat} (h : jHouse S o) : S.2.2 o 1 = some (o + 2) := h.2.1.2.1
theorem jHouse.r2 {S : jX} {o : Nat} (h : jHouse S o) : S.2.2 o 2 = some (o + 3) := h.2.1.2.2.1
theorem jHouse.r3 {S : jX} {o : Nat} (h : jHouse S o) : S.2.2 o 3 = some (o + 4) := h.2.1.2.2.2
theorem jHouse.a0 {S : jX} {o : Nat} (h : jHouse S o) : jKd S (o + 1) 10 8 := h.2.2.1.1
theorem jHouse.a1 {S : jX} {o : Nat} (h : jHouse S o) : jKd S (o + 2) 11 6 := h.2.2.1.2.1
theorem jHouse.a2 {S : jX} {o : Nat} (h : jHouse S o) : jKd S (o + 3) 8 4 := h.2.2.1.2.2.1
theorem jHouse.a3 {S : jX} {o : Nat} (h : jHouse S o) : jKd S (o + 4) 8 4 := h.2.2.1.2.2.2
theorem jHouse.b {S : jX} {o i : Nat} (h : jHouse S o) (hi : i < 8) : jKd S (o + 5 + i) 0 0 ∧ S.2.2 (o + 1) i = some (o + 5 + i) := h.2.2.2.1 i hi
theorem jHouse.c {S : jX} {o i : Nat} (h : jHouse S o) (hi : i < 6) : jKd S (o + 13 + i) 3 0 ∧ S.2.2 (o + 2) i = some (o + 13 + i) := h.2.2.2.2 i hi
theorem jtn {x : Int32} {N : Nat} (h : vp_in x N) : x.toNatClampNeg < N := Nat.not_le.mp fun q => h (Or.inr q)
theorem jBn {x : Int32} (h : x = 0 ∨ x = 1) : narrow .boolean (.int x) = .int x := by rcases h with rfl | rfl <;> rfl
theorem jvp_4 {x : Int32} (h1 : ¬ x < 0) (h2 : ¬ (4 : Int32) ≤ x) : vp_in x 4 := jvp h1 (Int32.not_le.mp h2) (by decide)
theorem jvp_8 {x : Int32} (h1 : ¬ x < 0) (h2 : ¬ (8 : Int32) ≤ x) : vp_in x 8 := jvp h1 (Int32.not_le.mp h2) (by decide)
theorem jvp_6 {x : Int32} (h1 : ¬ x < 0) (h2 : ¬ (6 : Int32) ≤ x) : vp_in x 6 := jvp h1 (Int32.not_le.mp h2) (by decide)
theorem jvp_60 {x : Int32} (h1 : ¬ x < 0) (h2 : ¬ (60 : Int32) ≤ x) : vp_in x 60 := jvp h1 (Int32.not_le.mp h2) (by decide)
