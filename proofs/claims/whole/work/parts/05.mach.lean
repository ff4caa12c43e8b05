-- ===== THE ABSTRACT MACHINE: cells by number, one rule an instruction =====
abbrev jW : Type := Nat × (Nat → Nat) × va_G × (Nat → ClassId)
abbrev jX : Type := Nat × (Nat → Nat × Nat) × (Nat → Nat → Option Nat)
abbrev jI : Type := Nat → Nat → Int32
abbrev jMt : Type := MethodName × ByteArray × Nat × Option FieldType
abbrev jG : Type := (Program × Launch × Env × Room × State × MethodId) × (Array Value × List Frame × Method × Code) × jW × (State → Prop)
def jv (w : jW) (v : Value) : Value := match v with
  | .ref k => .ref (w.1 + k)
  | .retAddr k => .ref (w.2.1 k)
  | .int x => .int x
  | .long x => .long x
  | .float x => .float x
  | .double x => .double x
  | .null => .null
def jq (w : jW) (r : Option Nat) : Option Nat := r.map (fun k => w.1 + k)
theorem jv_rf (w : jW) (r : Option Nat) : jv w (va_rf r) = va_rf (jq w r) := by cases r <;> rfl
def jC (c : Nat) : vw_C := match c with
  | 0 => (RX0, TX0, 14)
  | 1 => (RX1, TX1, 3)
  | 2 => (RX2, TX2, 9)
  | 3 => (RX3, TX3, 5)
  | 4 => (RX4, TX4, 7)
  | 5 => (RX5, TX5, 4)
  | 6 => (RX6, TX6, 5)
  | _ => (RX7, TX7, 13)
def jty (c : Nat) : Nat → FieldType := match c with
  | 0 => tyX0
  | 1 => tyX1
  | 2 => tyX2
  | 3 => tyX3
  | 4 => tyX4
  | 5 => tyX5
  | 6 => tyX6
  | _ => tyX7
def jisR (ty : FieldType) : Bool := match ty with
  | .object _ => true
  | .array _ => true
  | _ => false
def jrf (c j : Nat) : Bool := jisR (jty c j)
theorem jlt8 {P : Nat → Prop} (h0 : P 0) (h1 : P 1) (h2 : P 2) (h3 : P 3) (h4 : P 4) (h5 : P 5) (h6 : P 6) (h7 : P 7) {c : Nat} (h : c < 8) : P c := by
  match c, h with
  | 0, _ => exact h0
  | 1, _ => exact h1
  | 2, _ => exact h2
  | 3, _ => exact h3
  | 4, _ => exact h4
  | 5, _ => exact h5
  | 6, _ => exact h6
  | 7, _ => exact h7
theorem jC_at {c : Nat} (h : c < 8) : vwCl[c]? = some (jC c) := jlt8 (P := fun c => vwCl[c]? = some (jC c)) rfl rfl rfl rfl rfl rfl rfl rfl h
theorem jC_ty {c : Nat} (h : c < 8) : ∀ k, k < (jC c).2.2 → parseFieldDescriptor ((jC c).2.1 k).2.2.1 = some (jty c k) :=
  jlt8 (P := fun c => ∀ k, k < (jC c).2.2 → parseFieldDescriptor ((jC c).2.1 k).2.2.1 = some (jty c k)) tyX0_ok tyX1_ok tyX2_ok tyX3_ok tyX4_ok tyX5_ok tyX6_ok tyX7_ok h
theorem jC_nm {c : Nat} (h : c < 8) : ∀ a, a < (jC c).2.2 → ∀ b, b < (jC c).2.2 → a ≠ b → ((jC c).2.1 a).2.1 ≠ ((jC c).2.1 b).2.1 :=
  jlt8 (P := fun c => ∀ a, a < (jC c).2.2 → ∀ b, b < (jC c).2.2 → a ≠ b → ((jC c).2.1 a).2.1 ≠ ((jC c).2.1 b).2.1) nmX0 nmX1 nmX2 nmX3 nmX4 nmX5 nmX6 nmX7 h
def jobj (w : jW) (S : jX) (I : jI) (k : Nat) : List Value := (List.range (jC (S.2.1 k).1).2.2).map (fun j => if jrf (S.2.1 k).1 j = true then va_rf (jq w (S.2.2 k j)) else .int (I k j))
def jcell (w : jW) (S : jX) (I : jI) (k : Nat) : va_E :=
  if (S.2.1 k).1 < 8 then .inr ((S.2.1 k).1, jobj w S I k)
  else if (S.2.1 k).1 < 10 then .inl (w.2.2.2 (S.2.1 k).1, (S.2.1 k).2, .inl (I k))
  else .inl (w.2.2.2 (S.2.1 k).1, (S.2.1 k).2, .inr (.inr (.inr (.inr (fun j => jq w (S.2.2 k j))))))
def jws (w : jW) (S : jX) (I : jI) : va_W := (List.range S.1).map (fun k => (w.1 + k, jcell w S I k))
theorem jws_at (w : jW) (S : jX) (I : jI) {k : Nat} (h : k < S.1) : (jws w S I)[k]? = some (w.1 + k, jcell w S I k) := by
  simp [jws, h]
theorem jws_len (w : jW) (S : jX) (I : jI) : (jws w S I).length = S.1 := by simp [jws]
theorem jws_inv {w : jW} {S : jX} {I : jI} {k : Nat} {q : Nat × va_E} (h : (jws w S I)[k]? = some q) : k < S.1 ∧ q = (w.1 + k, jcell w S I k) := by
  have hk : k < S.1 := by have := (List.getElem?_eq_some_iff.mp h).1; rwa [jws_len] at this
  rw [jws_at w S I hk] at h
  exact ⟨hk, (Option.some.inj h).symm⟩
theorem jws_D (w : jW) (S : jX) (I : jI) : va_D (fun q => w.1 ≤ q) (jws w S I) := by
  refine ⟨fun i j p q hi hj hpq => ?_, fun k q hk => ?_⟩
  · obtain ⟨-, rfl⟩ := jws_inv hi
    obtain ⟨-, rfl⟩ := jws_inv hj
    have : w.1 + i = w.1 + j := hpq
    omega
  · obtain ⟨-, rfl⟩ := jws_inv hk
    show w.1 ≤ w.1 + k
    omega
theorem jws_set {w : jW} {S S' : jX} {I I' : jI} {o : Nat} {e : va_E} (hn : S'.1 = S.1) (he : e = jcell w S' I' o) (hk : ∀ k, k < S.1 → k ≠ o → jcell w S' I' k = jcell w S I k) : (jws w S I).set o (w.1 + o, e) = jws w S' I' := by
  apply List.ext_getElem?
  intro k
  by_cases hkn : k < S.1
  · rw [jws_at w S' I' (by omega)]
    by_cases ho : o = k
    · subst ho
      rw [List.getElem?_set_self (by rw [jws_len]; exact hkn), he]
    · rw [List.getElem?_set_ne ho, jws_at w S I hkn, hk k hkn (fun h => ho h.symm)]
  · rw [List.getElem?_eq_none (by rw [List.length_set, jws_len]; omega), List.getElem?_eq_none (by rw [jws_len]; omega)]
theorem jws_push {w : jW} {S S' : jX} {I I' : jI} {e : va_E} (hn : S'.1 = S.1 + 1) (he : e = jcell w S' I' S.1) (hk : ∀ k, k < S.1 → jcell w S' I' k = jcell w S I k) : jws w S I ++ [(w.1 + S.1, e)] = jws w S' I' := by
  apply List.ext_getElem?
  intro k
  by_cases hkn : k < S.1
  · rw [jws_at w S' I' (by omega), List.getElem?_append_left (by rw [jws_len]; exact hkn), jws_at w S I hkn, hk k hkn]
  · by_cases ho : k = S.1
    · subst ho
      rw [jws_at w S' I' (by omega), List.getElem?_append_right (by rw [jws_len]; omega), jws_len, Nat.sub_self, he]
      rfl
    · rw [List.getElem?_eq_none (by rw [List.length_append, jws_len]; simp; omega), List.getElem?_eq_none (by rw [jws_len]; omega)]
def jtys (ca : Nat → ClassId) : List (ClassId × FieldType) := [(ca 8, .int), (ca 9, .char), (ca 10, .object RX0), (ca 11, .object RX3), (ca 12, .object RX2)]
def jgs (j : Nat) : Int32 := match j with
  | 0 => 200
  | 1 => 200
  | _ => 99
/-- what is known of the tables and of what nobody writes -/
def jK (w : jW) (U : State) : Prop := va_K w.2.2.1 vwCl (jtys w.2.2.2) U ∧ (∀ x ∈ jnw, va_Nw x U) ∧ (va_AO RX0 U ∧ va_AO RX3 U ∧ va_AO RX2 U) ∧ va_Z RX6 "GREATEST_SETTINGS" "[I" (.ref (w.2.1 0)) (fun q => w.1 ≤ q) U U.heap ∧ va_T .int (w.2.1 0) 4 (fun j => .int (jgs j)) (fun q => w.1 ≤ q) U U.heap
theorem jK.next {w : jW} {s U : State} {H : Heap} {locs : List Loc} (h : jK w s) (hS : va_S (fun q => w.1 ≤ q) s.heap H locs) (hU : U.heap = H) (hW0 : s.WarmedH U.vm) : jK w U := by
  obtain ⟨h1, h0, ⟨a1, a2, a3⟩, h2, h3⟩ := h
  have hW := hW0.alike
  refine ⟨h1.moved hW, fun x hx => ?_, ⟨a1.moved hW, a2.moved hW, a3.moved hW⟩, ?_, ?_⟩
  · have hn := List.all_eq_true.mp jnw_ok x hx
    have hZ := h0 x hx
    cases x <;> first | exact hZ.warmF hW0 | exact hZ.warmM hW0 | cases hn
  · exact (h2.moved hW).kept (fun a ha hn => by rw [hU]; exact hS.2.1 a ha hn)
  · exact (h3.moved hW).kept (fun a ha hn => by rw [hU]; exact hS.2.1 a ha hn)
theorem jK.calling {w : jW} {U : State} {g : JFrame} {mk : MethodId} {a : Array Value} (h : jK w U) : jK w (U.calling g mk a) := by
  obtain ⟨h1, h0, ⟨a1, a2, a3⟩, h2, h3⟩ := h
  have hv : U.vm.Alike (U.calling g mk a).vm := Vm.Alike.refl U.vm
  exact ⟨h1.moved hv, fun x hx => va_Nw.same (u := U) (by have hn := List.all_eq_true.mp jnw_ok x hx; cases x <;> first | rfl | cases hn) (rfl : U.vm = (U.calling g mk a).vm) (h0 x hx), ⟨a1.moved hv, a2.moved hv, a3.moved hv⟩, h2.moved hv, h3.moved hv⟩
/-- a state that a method may begin in -/
def jP (w : jW) (S : jX) (I : jI) (U : State) : Prop := U.heap.size = w.1 + S.1 ∧ va_P w.2.2.1 vwCl (jws w S I) U.heap ∧ jK w U
def jQ (w : jW) (Φ : Option Value → jX → jI → Prop) : Array Value → State → Outcome → State → Prop := fun _ st o t =>
  ∃ (v : Option Value) (S' : jX) (I' : jI), o = .returned (v.map (jv w)) ∧ Φ v S' I' ∧ t.heap.size = w.1 + S'.1 ∧ va_P w.2.2.1 vwCl (jws w S' I') t.heap ∧ va_F (fun q => w.1 ≤ q) st t
/-- a method's contract, at depth d.1, with d.2 new cells and slots at most -/
def jM (d : Nat × Nat × Nat) (mt : jMt) (as : List Value) (S : jX) (I : jI) (Φ : Option Value → jX → jI → Prop) : Prop :=
  ∀ (l : Launch) (w : jW), Met l mt.1 (Cond.code mt.1 mt.2.1 mt.2.2.1 mt.2.2.2 :: jtw) ({ frames := d.1, cells := d.2.1, slots := d.2.2, locals := 34 * d.1 } : Room) (va_Pc (as.map (jv w)) (jP w S I)) (jQ w Φ) d.2.1 d.2.2 (fun q => w.1 ≤ q)
def jl (w : jW) : Nat → List Value → List (Nat × Value)
  | _, [] => []
  | i, v :: vs => if v.category = 2 then jl w (i + 1) vs else (i, jv w v) :: jl w (i + 1) vs
theorem jv_cat (w : jW) (v : Value) : (jv w v).category = v.category := by cases v <;> rfl
theorem jl_get (w : jW) : ∀ (ls : List Value) (b k : Nat) (v : Value), ls[k]? = some v → ¬ v.category = 2 → (b + k, jv w v) ∈ jl w b ls
  | [], b, k, v, h, _ => by simp at h
  | u :: vs, b, 0, v, h, hc => by
    simp at h
    subst h
    simp [jl, hc]
  | u :: vs, b, k + 1, v, h, hc => by
    have h' : vs[k]? = some v := by simpa using h
    have := jl_get w vs (b + 1) k v h' hc
    rw [show b + (k + 1) = b + 1 + k by omega]
    unfold jl
    split
    · exact this
    · exact List.mem_cons_of_mem _ this
theorem jl_inv (w : jW) : ∀ (ls : List Value) (b : Nat) (q : Nat × Value), q ∈ jl w b ls → ∃ (k : Nat) (v : Value), ls[k]? = some v ∧ ¬ v.category = 2 ∧ q = (b + k, jv w v)
  | [], b, q, h => by simp [jl] at h
  | u :: vs, b, q, h => by
    unfold jl at h
    split at h
    next hc =>
      obtain ⟨k, v, h1, h2, h3⟩ := jl_inv w vs (b + 1) q h
      exact ⟨k + 1, v, by simpa using h1, h2, by rw [h3, show b + (k + 1) = b + 1 + k by omega]⟩
    next hc =>
      rcases List.mem_cons.mp h with h | h
      · exact ⟨0, u, by simp, hc, by simpa using h⟩
      · obtain ⟨k, v, h1, h2, h3⟩ := jl_inv w vs (b + 1) q h
        exact ⟨k + 1, v, by simpa using h1, h2, by rw [h3, show b + (k + 1) = b + 1 + k by omega]⟩
theorem jl_set {w : jW} {ls : List Value} {la : Array Slot} {nL i : Nat} {v : Value} (h : lv_has la nL ((i, jv w v) :: (jl w 0 ls).filter (fun q => !(q.1 == i) && !(q.1 + 1 == i && q.2.category == 2)))) (hc : ¬ v.category = 2) : lv_has la nL (jl w 0 (ls.set i v)) := by
  refine ⟨h.1, h.2.1, fun q hq => h.2.2 q ?_⟩
  obtain ⟨k, u, h1, h2, rfl⟩ := jl_inv w _ 0 q hq
  by_cases hk : i = k
  · subst hk
    rw [List.getElem?_set] at h1
    simp at h1
    rw [← h1.2]
    simp
  · rw [List.getElem?_set_ne hk] at h1
    refine List.mem_cons_of_mem _ (List.mem_filter.mpr ⟨jl_get w ls 0 k u h1 h2, ?_⟩)
    have hc2 : ((jv w u).category == 2) = false := by rw [jv_cat]; simpa using h2
    have hki : (0 + k == i) = false := by simp; omega
    simp only [hki, hc2, Bool.and_false, Bool.not_false, Bool.and_self]
theorem jl_at {w : jW} {ls : List Value} {la : Array Slot} {nL k : Nat} {v : Value} (h : lv_has la nL (jl w 0 ls)) (hk : ls[k]? = some v) (hc : ¬ v.category = 2) : la[k]? = some (.val (jv w v)) := by
  have := h.2.2 _ (jl_get w ls 0 k v hk hc)
  simpa using this
theorem jl_lt {w : jW} {ls : List Value} {la : Array Slot} {nL k : Nat} {v : Value} (h : lv_has la nL (jl w 0 ls)) (hk : ls[k]? = some v) (hc : ¬ v.category = 2) : k < nL := by
  have := jl_at h hk hc
  have h2 := (Array.getElem?_eq_some_iff.mp this).1
  rw [h.1] at h2
  exact h2
