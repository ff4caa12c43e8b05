def jrow (I : jI) (a : Nat) (f : Nat → Int32) : jI := fun x => if x = a then f else I x
theorem jrow_eq {I : jI} {a : Nat} {f : Nat → Int32} : jrow I a f a = f := by simp [jrow]
theorem jrow_ne {I : jI} {a b : Nat} {f : Nat → Int32} (h : b ≠ a) : jrow I a f b = I b := by simp [jrow, h]
theorem jrow_init {I : jI} {a : Nat} {f : Nat → Int32} (h : ∀ k, f k = I a k) : I = jrow I a f := by
  funext x k
  by_cases hx : x = a
  · subst hx; simp [jrow, h]
  · simp [jrow, hx]
theorem jrow_self {I : jI} {a : Nat} : jrow I a (I a) = I := by funext x; by_cases h : x = a <;> simp [jrow, h]
theorem jrow_step (I : jI) (a : Nat) (f : Nat → Int32) (i : Nat) (x : Int32) : jset (jrow I a f) a i x = jrow I a (upd f i x) := by
  funext b k
  by_cases hb : b = a
  · subst hb; by_cases hk : k = i <;> simp [jset, jrow, upd, hk]
  · simp [jset, jrow, hb]
theorem jset_row (I : jI) (a : Nat) (i : Nat) (x : Int32) : jset I a i x = jrow I a (upd (I a) i x) := by
  funext b k
  by_cases hb : b = a
  · subst hb; by_cases hk : k = i <;> simp [jset, jrow, upd, hk]
  · simp [jset, jrow, hb]
theorem jcpy (f g : Nat → Int32) (i : Nat) : upd (fun k => if k < i then f k else g k) i (f i) = fun k => if k < i + 1 then f k else g k := by
  funext k
  by_cases hk : k = i
  · subst hk; simp [upd]
  · by_cases h2 : k < i
    · have : k < i + 1 := by omega
      simp [upd, hk, h2, this]
    · have : ¬ k < i + 1 := by omega
      simp [upd, hk, h2, this]
/-- a row written from b on -/
theorem jcpyb (f g : Nat → Int32) (b i : Nat) : upd (fun k => if b ≤ k ∧ k < b + i then f (k - b) else g k) (b + i) (f i) = fun k => if b ≤ k ∧ k < b + (i + 1) then f (k - b) else g k := by
  funext k
  by_cases hk : k = b + i
  · subst hk
    have h1 : b ≤ b + i ∧ b + i < b + (i + 1) := by omega
    have h2 : b + i - b = i := by omega
    simp [upd, h1, h2]
  · by_cases h2 : b ≤ k ∧ k < b + i
    · have : b ≤ k ∧ k < b + (i + 1) := by omega
      simp only [upd, if_neg hk, if_pos h2, if_pos this]
    · have : ¬ (b ≤ k ∧ k < b + (i + 1)) := by omega
      simp only [upd, if_neg hk, if_neg h2, if_neg this]
