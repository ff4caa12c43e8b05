/-- only boilers' rows of the reference have changed -/
def jBo (I I' : jI) (o : Nat) : Prop := (∀ b, b ≠ o + 1 → I' b = I b) ∧ ∀ k : Nat, (k < 15 ∨ 111 ≤ k) → I' (o + 1) k = I (o + 1) k
theorem jBo.rf {I : jI} {o : Nat} : jBo I I o := ⟨fun _ _ => rfl, fun _ _ => rfl⟩
theorem jBo.tr {I J K : jI} {o : Nat} (h1 : jBo I J o) (h2 : jBo J K o) : jBo I K o := ⟨fun b hb => (h2.1 b hb).trans (h1.1 b hb), fun k hk => (h2.2 k hk).trans (h1.2 k hk)⟩
theorem jof_n {b w : Int32} {i k : Nat} (hb : b = nI i) (hi : i < 8) (hw : w = nI k) (hk : k < 12) : (15 + 12 * b + w).toNatClampNeg = 15 + 12 * i + k := by
  subst hb; subst hw
  exact jlin_n 15 12 i k 141 (by omega) (by decide)
theorem jBo.lay {I J : jI} {o : Nat} {b w v : Int32} (h : jBo I J o) (hb : jB8 b) {k : Nat} (hw : w = nI k) (hk : k < 12) : jBo I (fX7_lays J o b w v) o := by
  obtain ⟨i, hi, he⟩ := hb
  refine h.tr ⟨fun c hc => ?_, fun q hq => ?_⟩
  · funext q; simp [fX7_lays, jset, hc]
  · unfold fX7_lays
    rw [jof_n he hi hw hk]
    have hne : ¬ q = 15 + 12 * i + k := by omega
    simp [jset, hne]
theorem jBo.inv {I J : jI} {o : Nat} (h : jBo I J o) (hI : jMInv I o) : jMInv J o := by
  obtain ⟨h1, h2, h3⟩ := hI
  refine ⟨?_, ?_, fun j hj => ?_⟩
  · rw [h.2 0 (by omega)]; exact h1
  · rw [h.2 1 (by omega)]; exact h2
  · rw [h.2 (111 + 5 * j) (by omega)]; exact h3 j hj
theorem jBo.cool {I J : jI} {o : Nat} {b : Int32} (h : jBo I J o) (hb : jB8 b) : jBo I (fX7_cools J o b) o := (h.lay hb (k := 3) rfl (by decide)).lay hb (k := 4) rfl (by decide)
theorem jBo.grow {I : jI} {o : Nat} {b : Int32} (hb : jB8 b) : jBo I (fX7_grows I o b) o := by
  unfold fX7_grows
  repeat' split
  all_goals first
    | exact jBo.rf
    | exact jBo.rf.lay hb (k := 2) rfl (by decide)
    | exact jBo.rf.lay hb (k := 4) rfl (by decide)
    | exact (jBo.rf.lay hb (k := 2) rfl (by decide)).lay hb (k := 4) rfl (by decide)
theorem jBo.repair {I : jI} {o : Nat} {b : Int32} (hb : jB8 b) : jBo I (fX7_repairs I o b) o := by
  unfold fX7_repairs
  repeat' split
  all_goals first
    | exact jBo.rf
    | exact (((jBo.rf.cool hb).lay hb (k := 2) rfl (by decide)).lay hb (k := 6) rfl (by decide)).lay hb (k := 9) rfl (by decide)
/-- a week of the reference -/
def mGrow (I : jI) (o : Nat) : Nat → jI
  | 0 => I
  | n + 1 => fX7_grows (mGrow I o n) o (nI n)
def mInsp (I : jI) (o : Nat) : Nat → jI
  | 0 => I
  | n + 1 => jset (mInsp I o n) (o + 1) (111 + 5 * n + 2) 0
def mDrop1 (I : jI) (o : Nat) (b : Int32) : jI :=
  if fX7_hasPaper I o b = 0 then I
  else if (I (o + 1) ((2 : Int32).toNatClampNeg)) ≤ fX7_of I o b 11 then I else fX7_lays I o b 9 (-1)
def mDrop2 (I : jI) (o : Nat) (b : Int32) : jI :=
  if fX7_of I o b 7 < 0 then I
  else if (I (o + 1) ((2 : Int32).toNatClampNeg)) ≤ fX7_of I o b 8 then I else fX7_lays I o b 7 (-1)
def mOut (I : jI) (o : Nat) (n b : Int32) : Int32 × jI :=
  if fX7_of I o b 3 = 1 then
    (if fX7_hasPaper I o b = 0 then (n + 1, fX7_cools I o b)
     else if fX7_isShut I o b = 0 then (n, I) else (n + 1, fX7_cools I o b))
  else (n, I)
def mWb (I : jI) (o : Nat) (n b : Int32) : Int32 × jI := mOut (mDrop2 (mDrop1 (fX7_repairs I o b) o b) o b) o n b
def mWbN (I : jI) (o : Nat) : Nat → Int32 × jI
  | 0 => (0, I)
  | k + 1 => mWb (mWbN I o k).2 o (mWbN I o k).1 (nI k)
def mNext (I : jI) (o : Nat) : jI := jset I (o + 1) ((2 : Int32).toNatClampNeg) (I (o + 1) ((2 : Int32).toNatClampNeg) + 1)
def mCnt (I : jI) (o k : Nat) : Nat := (I (o + 1) k).toNatClampNeg
def fX7_week (I : jI) (o : Nat) : Int32 × jI :=
  let I1 := mInsp (mNext (mGrow I o (mCnt I o 0)) o) o (mCnt I o 1)
  let p := mWbN I1 o (mCnt I o 0)
  (p.1, jset p.2 (o + 1) ((3 : Int32).toNatClampNeg) (p.2 (o + 1) ((3 : Int32).toNatClampNeg) + p.1))
theorem jBo.drop1 {I J : jI} {o : Nat} {b : Int32} (h : jBo I J o) (hb : jB8 b) : jBo I (mDrop1 J o b) o := by
  unfold mDrop1
  repeat' split
  all_goals first | exact h | exact h.lay hb (k := 9) rfl (by decide)
theorem jBo.drop2 {I J : jI} {o : Nat} {b : Int32} (h : jBo I J o) (hb : jB8 b) : jBo I (mDrop2 J o b) o := by
  unfold mDrop2
  repeat' split
  all_goals first | exact h | exact h.lay hb (k := 7) rfl (by decide)
theorem jBo.out {I J : jI} {o : Nat} {n b : Int32} (h : jBo I J o) (hb : jB8 b) : jBo I (mOut J o n b).2 o := by
  unfold mOut
  repeat' split
  all_goals first | exact h | exact h.cool hb
theorem jBo.wb {I : jI} {o : Nat} {n b : Int32} (hb : jB8 b) : jBo I (mWb I o n b).2 o := (((jBo.repair hb).drop1 hb).drop2 hb).out hb
theorem jBo.wbN {I : jI} {o : Nat} : ∀ {k : Nat}, k ≤ 8 → jBo I (mWbN I o k).2 o
  | 0, _ => jBo.rf
  | k + 1, h => (jBo.wbN (by omega)).tr (jBo.wb ⟨k, by omega, rfl⟩)
theorem jBo.growN {I : jI} {o : Nat} : ∀ {k : Nat}, k ≤ 8 → jBo I (mGrow I o k) o
  | 0, _ => jBo.rf
  | k + 1, h => (jBo.growN (by omega)).tr (jBo.grow ⟨k, by omega, rfl⟩)
theorem mInsp_ne {I : jI} {o : Nat} {b k : Nat} (h : b ≠ o + 1 ∨ ∀ j, k ≠ 111 + 5 * j + 2) : ∀ n, mInsp I o n b k = I b k
  | 0 => rfl
  | n + 1 => by
    show jset (mInsp I o n) (o + 1) (111 + 5 * n + 2) 0 b k = I b k
    have hne : ¬ (b = o + 1 ∧ k = 111 + 5 * n + 2) := by
      rintro ⟨h1, h2⟩
      rcases h with h | h
      · exact h h1
      · exact h n h2
    have e := mInsp_ne (I := I) h n
    simp only [jset, if_neg hne]
    exact e
