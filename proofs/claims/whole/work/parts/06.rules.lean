/-- what is fixed while a method runs -/
def jF (p : Program) (R : Room) (s : State) (m : MethodId) (args : Array Value) (meth : Method) (c : Code) (w : jW) (d : Nat × Nat × Nat) (mt : jMt) : Prop :=
  (p.tables.exec = Jvm.exec ∧ c.code = mt.2.1 ∧ c.maxLocals = mt.2.2.1 ∧ s.vm.findClass mt.1.cls = some m.cls ∧ (∀ x ∈ jtw, x.before args s = true)) ∧ jK w s ∧ w.1 ≤ s.heap.size ∧ meth.locks = false ∧ meth.name = mt.1.name ∧ (d.1 ≤ R.frames ∧ 34 * d.1 ≤ R.locals) ∧ (d.2.1 ≤ R.cells ∧ d.2.2 ≤ R.slots) ∧ meth.sig.returnType = mt.2.2.2
/-- from here on (pc, locals, stack, cells) the method comes to its end -/
def J (G : jG) (d : Nat × Nat × Nat) (mt : jMt) (pc : Nat) (ls st : List Value) (S : jX) (I : jI) (k n : Nat) : Prop :=
  match G with
  | ((p, l, e, R, s, m), (args, below, meth, c), w, Q) => jF p R s m args meth c w d mt → ∀ (H : Heap) (locs : List Loc) (la : Array Slot), H.size = w.1 + S.1 → va_P w.2.2.1 vwCl (jws w S I) H → va_S (fun q => w.1 ≤ q) s.heap H locs → lv_has la mt.2.2.1 (jl w 0 ls) →
    W p l e R s m args below meth c H locs k n Q (F0 m pc la (st.map (jv w)))
section JR
variable {G : jG} {d : Nat × Nat × Nat} {mt : jMt} {pc : Nat} {ls st : List Value} {S : jX} {I : jI} {k n : Nat}

theorem J_iload_n {kk : Fin 4} {x : Int32} (hd : decode mt.2.1 pc = .ok (.iload_n kk, 1)) (hk : ls[(kk : Nat)]? = some (.int x)) (h : J G d mt (pc + 1) ls (.int x :: st) S I k n) : J G d mt pc ls (st) S I k n := by
  obtain ⟨⟨p, l, e, R, s, m⟩, ⟨args, below, meth, c⟩, w, Q⟩ := G
  intro hF H locs la hz hP hS hl
  obtain ⟨⟨hx, hb, hml, hown, hts⟩, hK, hsz, hlk, hnm, hfr, hbud, hrt⟩ := id hF
  exact lv_iload_n hx hb hd rfl (jl_at hl hk (by simp [Value.category])) (h hF H locs la hz hP hS hl)

theorem J_iload {kk : Nat} {x : Int32} (hd : decode mt.2.1 pc = .ok (.iload kk, 2)) (hk : ls[kk]? = some (.int x)) (h : J G d mt (pc + 2) ls (.int x :: st) S I k n) : J G d mt pc ls (st) S I k n := by
  obtain ⟨⟨p, l, e, R, s, m⟩, ⟨args, below, meth, c⟩, w, Q⟩ := G
  intro hF H locs la hz hP hS hl
  obtain ⟨⟨hx, hb, hml, hown, hts⟩, hK, hsz, hlk, hnm, hfr, hbud, hrt⟩ := id hF
  exact lv_iload hx hb hd (jl_at hl hk (by simp [Value.category])) (h hF H locs la hz hP hS hl)

def jisRef (v : Value) : Bool := match v with
  | .ref _ => true
  | .null => true
  | .retAddr _ => true
  | _ => false

theorem J_aload_n {kk : Fin 4} {v : Value} (hd : decode mt.2.1 pc = .ok (.aload_n kk, 1)) (hk : ls[(kk : Nat)]? = some v) (hv : jisRef v = true) (h : J G d mt (pc + 1) ls (v :: st) S I k n) : J G d mt pc ls (st) S I k n := by
  obtain ⟨⟨p, l, e, R, s, m⟩, ⟨args, below, meth, c⟩, w, Q⟩ := G
  intro hF H locs la hz hP hS hl
  obtain ⟨⟨hx, hb, hml, hown, hts⟩, hK, hsz, hlk, hnm, hfr, hbud, hrt⟩ := id hF
  have h := h hF H locs la hz hP hS hl
  cases v with
  | ref a => exact lv_aload_n hx hb hd rfl (jl_at hl hk (by simp [Value.category])) h
  | retAddr a => exact lv_aload_n hx hb hd rfl (jl_at hl hk (by simp [Value.category])) h
  | null => exact lv_aload_nN hx hb hd rfl (jl_at hl hk (by simp [Value.category])) h
  | int a => cases hv
  | long a => cases hv
  | float a => cases hv
  | double a => cases hv

theorem J_aload {kk : Nat} {v : Value} (hd : decode mt.2.1 pc = .ok (.aload kk, 2)) (hk : ls[kk]? = some v) (hv : jisRef v = true) (h : J G d mt (pc + 2) ls (v :: st) S I k n) : J G d mt pc ls (st) S I k n := by
  obtain ⟨⟨p, l, e, R, s, m⟩, ⟨args, below, meth, c⟩, w, Q⟩ := G
  intro hF H locs la hz hP hS hl
  obtain ⟨⟨hx, hb, hml, hown, hts⟩, hK, hsz, hlk, hnm, hfr, hbud, hrt⟩ := id hF
  have h := h hF H locs la hz hP hS hl
  cases v with
  | ref a => exact lv_aload hx hb hd (jl_at hl hk (by simp [Value.category])) h
  | retAddr a => exact lv_aload hx hb hd (jl_at hl hk (by simp [Value.category])) h
  | null => exact lv_aloadN hx hb hd (jl_at hl hk (by simp [Value.category])) h
  | int a => cases hv
  | long a => cases hv
  | float a => cases hv
  | double a => cases hv

theorem J_istore_n {kk : Fin 4} {x : Int32} (hd : decode mt.2.1 pc = .ok (.istore_n kk, 1)) (hn : (kk : Nat) < mt.2.2.1) (h : J G d mt (pc + 1) (ls.set kk (.int x)) st S I k n) : J G d mt pc ls (.int x :: st) S I k n := by
  obtain ⟨⟨p, l, e, R, s, m⟩, ⟨args, below, meth, c⟩, w, Q⟩ := G
  intro hF H locs la hz hP hS hl
  obtain ⟨⟨hx, hb, hml, hown, hts⟩, hK, hsz, hlk, hnm, hfr, hbud, hrt⟩ := id hF
  exact lv_istore_n hx hb hd rfl hl hn rfl (fun la hl => h hF H locs la hz hP hS (jl_set (v := .int x) hl (by simp [Value.category])))
theorem J_istore {kk : Nat} {x : Int32} (hd : decode mt.2.1 pc = .ok (.istore kk, 2)) (hn : kk < mt.2.2.1) (h : J G d mt (pc + 2) (ls.set kk (.int x)) st S I k n) : J G d mt pc ls (.int x :: st) S I k n := by
  obtain ⟨⟨p, l, e, R, s, m⟩, ⟨args, below, meth, c⟩, w, Q⟩ := G
  intro hF H locs la hz hP hS hl
  obtain ⟨⟨hx, hb, hml, hown, hts⟩, hK, hsz, hlk, hnm, hfr, hbud, hrt⟩ := id hF
  exact lv_istore hx hb hd hl hn rfl (fun la hl => h hF H locs la hz hP hS (jl_set (v := .int x) hl (by simp [Value.category])))
theorem J_astore_n {kk : Fin 4} {v : Value} (hd : decode mt.2.1 pc = .ok (.astore_n kk, 1)) (hn : (kk : Nat) < mt.2.2.1) (hv : jisRef v = true) (h : J G d mt (pc + 1) (ls.set kk v) st S I k n) : J G d mt pc ls (v :: st) S I k n := by
  obtain ⟨⟨p, l, e, R, s, m⟩, ⟨args, below, meth, c⟩, w, Q⟩ := G
  intro hF H locs la hz hP hS hl
  obtain ⟨⟨hx, hb, hml, hown, hts⟩, hK, hsz, hlk, hnm, hfr, hbud, hrt⟩ := id hF
  cases v with
  | ref a => exact lv_astore_n hx hb hd rfl hl hn rfl (fun la hl => h hF H locs la hz hP hS (jl_set (v := .ref a) hl (by simp [Value.category])))
  | retAddr a => exact lv_astore_n hx hb hd rfl hl hn rfl (fun la hl => h hF H locs la hz hP hS (jl_set (v := .retAddr a) hl (by simp [Value.category])))
  | null => exact lv_astore_nN hx hb hd rfl hl hn rfl (fun la hl => h hF H locs la hz hP hS (jl_set (v := .null) hl (by simp [Value.category])))
  | int a => cases hv
  | long a => cases hv
  | float a => cases hv
  | double a => cases hv
theorem J_astore {kk : Nat} {v : Value} (hd : decode mt.2.1 pc = .ok (.astore kk, 2)) (hn : kk < mt.2.2.1) (hv : jisRef v = true) (h : J G d mt (pc + 2) (ls.set kk v) st S I k n) : J G d mt pc ls (v :: st) S I k n := by
  obtain ⟨⟨p, l, e, R, s, m⟩, ⟨args, below, meth, c⟩, w, Q⟩ := G
  intro hF H locs la hz hP hS hl
  obtain ⟨⟨hx, hb, hml, hown, hts⟩, hK, hsz, hlk, hnm, hfr, hbud, hrt⟩ := id hF
  cases v with
  | ref a => exact lv_astore hx hb hd hl hn rfl (fun la hl => h hF H locs la hz hP hS (jl_set (v := .ref a) hl (by simp [Value.category])))
  | retAddr a => exact lv_astore hx hb hd hl hn rfl (fun la hl => h hF H locs la hz hP hS (jl_set (v := .retAddr a) hl (by simp [Value.category])))
  | null => exact lv_astoreN hx hb hd hl hn rfl (fun la hl => h hF H locs la hz hP hS (jl_set (v := .null) hl (by simp [Value.category])))
  | int a => cases hv
  | long a => cases hv
  | float a => cases hv
  | double a => cases hv
theorem J_iinc {kk : Nat} {z : Int} {x y : Int32} (hd : decode mt.2.1 pc = .ok (.iinc kk z, 3)) (hk : ls[kk]? = some (.int x)) (hy : Int32.ofInt z = y) (h : J G d mt (pc + 3) (ls.set kk (.int (x + y))) st S I k n) : J G d mt pc ls st S I k n := by
  obtain ⟨⟨p, l, e, R, s, m⟩, ⟨args, below, meth, c⟩, w, Q⟩ := G
  intro hF H locs la hz hP hS hl
  obtain ⟨⟨hx, hb, hml, hown, hts⟩, hK, hsz, hlk, hnm, hfr, hbud, hrt⟩ := id hF
  subst hy
  obtain ⟨j, hj⟩ := List.getElem?_of_mem (jl_get w ls 0 kk _ hk (by simp [Value.category]))
  rw [Nat.zero_add] at hj
  exact lv_iinc hx hb hd hl hj rfl (jl_lt hl hk (by simp [Value.category])) rfl (fun la hl => h hF H locs la hz hP hS (jl_set (v := .int (x + Int32.ofInt z)) hl (by simp [Value.category])))

theorem J_iconst {z : Int} (x : Int32) (hd : decode mt.2.1 pc = .ok (.iconst z, 1)) (hv : Int32.ofInt z = x) (h : J G d mt (pc + 1) ls (.int x :: st) S I k n) : J G d mt pc ls (st) S I k n := by
  obtain ⟨⟨p, l, e, R, s, m⟩, ⟨args, below, meth, c⟩, w, Q⟩ := G
  intro hF H locs la hz hP hS hl
  obtain ⟨⟨hx, hb, hml, hown, hts⟩, hK, hsz, hlk, hnm, hfr, hbud, hrt⟩ := id hF
  exact lv_iconst hx hb hd hv (h hF H locs la hz hP hS hl)

theorem J_bipush {z : Int} (x : Int32) (hd : decode mt.2.1 pc = .ok (.bipush z, 2)) (hv : (Int8.ofInt z).toInt32 = x) (h : J G d mt (pc + 2) ls (.int x :: st) S I k n) : J G d mt pc ls (st) S I k n := by
  obtain ⟨⟨p, l, e, R, s, m⟩, ⟨args, below, meth, c⟩, w, Q⟩ := G
  intro hF H locs la hz hP hS hl
  obtain ⟨⟨hx, hb, hml, hown, hts⟩, hK, hsz, hlk, hnm, hfr, hbud, hrt⟩ := id hF
  exact lv_bipush hx hb hd hv (h hF H locs la hz hP hS hl)

theorem J_sipush {z : Int} (x : Int32) (hd : decode mt.2.1 pc = .ok (.sipush z, 3)) (hv : (Int16.ofInt z).toInt32 = x) (h : J G d mt (pc + 3) ls (.int x :: st) S I k n) : J G d mt pc ls (st) S I k n := by
  obtain ⟨⟨p, l, e, R, s, m⟩, ⟨args, below, meth, c⟩, w, Q⟩ := G
  intro hF H locs la hz hP hS hl
  obtain ⟨⟨hx, hb, hml, hown, hts⟩, hK, hsz, hlk, hnm, hfr, hbud, hrt⟩ := id hF
  exact lv_sipush hx hb hd hv (h hF H locs la hz hP hS hl)

theorem J_ldc {ix : Nat} (x : Int32) (hd : decode mt.2.1 pc = .ok (.ldc ix, 2)) (hw : Cond.constant mt.1.cls ix x ∈ jtw) (h : J G d mt (pc + 2) ls (.int x :: st) S I k n) : J G d mt pc ls (st) S I k n := by
  obtain ⟨⟨p, l, e, R, s, m⟩, ⟨args, below, meth, c⟩, w, Q⟩ := G
  intro hF H locs la hz hP hS hl
  obtain ⟨⟨hx, hb, hml, hown, hts⟩, hK, hsz, hlk, hnm, hfr, hbud, hrt⟩ := id hF
  exact lv_ldc hx hb hown (hts _ hw) hd (h hF H locs la hz hP hS hl)

theorem J_null (hd : decode mt.2.1 pc = .ok (.aconst_null, 1)) (h : J G d mt (pc + 1) ls (.null :: st) S I k n) : J G d mt pc ls (st) S I k n := by
  obtain ⟨⟨p, l, e, R, s, m⟩, ⟨args, below, meth, c⟩, w, Q⟩ := G
  intro hF H locs la hz hP hS hl
  obtain ⟨⟨hx, hb, hml, hown, hts⟩, hK, hsz, hlk, hnm, hfr, hbud, hrt⟩ := id hF
  exact lv_null hx hb hd (h hF H locs la hz hP hS hl)

theorem J_iadd {x y : Int32} (hd : decode mt.2.1 pc = .ok (.iadd, 1)) (h : J G d mt (pc + 1) ls (.int (x + y) :: st) S I k n) : J G d mt pc ls (.int y :: .int x :: st) S I k n := by
  obtain ⟨⟨p, l, e, R, s, m⟩, ⟨args, below, meth, c⟩, w, Q⟩ := G
  intro hF H locs la hz hP hS hl
  obtain ⟨⟨hx, hb, hml, hown, hts⟩, hK, hsz, hlk, hnm, hfr, hbud, hrt⟩ := id hF
  exact lv_iadd hx hb hd (h hF H locs la hz hP hS hl)

theorem J_isub {x y : Int32} (hd : decode mt.2.1 pc = .ok (.isub, 1)) (h : J G d mt (pc + 1) ls (.int (x - y) :: st) S I k n) : J G d mt pc ls (.int y :: .int x :: st) S I k n := by
  obtain ⟨⟨p, l, e, R, s, m⟩, ⟨args, below, meth, c⟩, w, Q⟩ := G
  intro hF H locs la hz hP hS hl
  obtain ⟨⟨hx, hb, hml, hown, hts⟩, hK, hsz, hlk, hnm, hfr, hbud, hrt⟩ := id hF
  exact lv_isub hx hb hd (h hF H locs la hz hP hS hl)

theorem J_imul {x y : Int32} (hd : decode mt.2.1 pc = .ok (.imul, 1)) (h : J G d mt (pc + 1) ls (.int (x * y) :: st) S I k n) : J G d mt pc ls (.int y :: .int x :: st) S I k n := by
  obtain ⟨⟨p, l, e, R, s, m⟩, ⟨args, below, meth, c⟩, w, Q⟩ := G
  intro hF H locs la hz hP hS hl
  obtain ⟨⟨hx, hb, hml, hown, hts⟩, hK, hsz, hlk, hnm, hfr, hbud, hrt⟩ := id hF
  exact lv_imul hx hb hd (h hF H locs la hz hP hS hl)

theorem J_iand {x y : Int32} (hd : decode mt.2.1 pc = .ok (.iand, 1)) (h : J G d mt (pc + 1) ls (.int (x &&& y) :: st) S I k n) : J G d mt pc ls (.int y :: .int x :: st) S I k n := by
  obtain ⟨⟨p, l, e, R, s, m⟩, ⟨args, below, meth, c⟩, w, Q⟩ := G
  intro hF H locs la hz hP hS hl
  obtain ⟨⟨hx, hb, hml, hown, hts⟩, hK, hsz, hlk, hnm, hfr, hbud, hrt⟩ := id hF
  exact lv_iand hx hb hd (h hF H locs la hz hP hS hl)

theorem J_ior {x y : Int32} (hd : decode mt.2.1 pc = .ok (.ior, 1)) (h : J G d mt (pc + 1) ls (.int (x ||| y) :: st) S I k n) : J G d mt pc ls (.int y :: .int x :: st) S I k n := by
  obtain ⟨⟨p, l, e, R, s, m⟩, ⟨args, below, meth, c⟩, w, Q⟩ := G
  intro hF H locs la hz hP hS hl
  obtain ⟨⟨hx, hb, hml, hown, hts⟩, hK, hsz, hlk, hnm, hfr, hbud, hrt⟩ := id hF
  exact lv_ior hx hb hd (h hF H locs la hz hP hS hl)

theorem J_ishl {x y : Int32} (hd : decode mt.2.1 pc = .ok (.ishl, 1)) (h : J G d mt (pc + 1) ls (.int (x <<< (y &&& 31)) :: st) S I k n) : J G d mt pc ls (.int y :: .int x :: st) S I k n := by
  obtain ⟨⟨p, l, e, R, s, m⟩, ⟨args, below, meth, c⟩, w, Q⟩ := G
  intro hF H locs la hz hP hS hl
  obtain ⟨⟨hx, hb, hml, hown, hts⟩, hK, hsz, hlk, hnm, hfr, hbud, hrt⟩ := id hF
  exact lv_ishl hx hb hd (h hF H locs la hz hP hS hl)

theorem J_idiv {x y : Int32} (hd : decode mt.2.1 pc = .ok (.idiv, 1)) (hne : ¬ y = 0) (h : J G d mt (pc + 1) ls (.int (x / y) :: st) S I k n) : J G d mt pc ls (.int y :: .int x :: st) S I k n := by
  obtain ⟨⟨p, l, e, R, s, m⟩, ⟨args, below, meth, c⟩, w, Q⟩ := G
  intro hF H locs la hz hP hS hl
  obtain ⟨⟨hx, hb, hml, hown, hts⟩, hK, hsz, hlk, hnm, hfr, hbud, hrt⟩ := id hF
  exact lv_idiv hx hb hd hne (h hF H locs la hz hP hS hl)

theorem J_irem {x y : Int32} (hd : decode mt.2.1 pc = .ok (.irem, 1)) (hne : ¬ y = 0) (h : J G d mt (pc + 1) ls (.int (x - x / y * y) :: st) S I k n) : J G d mt pc ls (.int y :: .int x :: st) S I k n := by
  obtain ⟨⟨p, l, e, R, s, m⟩, ⟨args, below, meth, c⟩, w, Q⟩ := G
  intro hF H locs la hz hP hS hl
  obtain ⟨⟨hx, hb, hml, hown, hts⟩, hK, hsz, hlk, hnm, hfr, hbud, hrt⟩ := id hF
  exact lv_irem hx hb hd hne (h hF H locs la hz hP hS hl)

theorem J_i2c {x : Int32} (hd : decode mt.2.1 pc = .ok (.i2c, 1)) (h : J G d mt (pc + 1) ls (.int (x.toUInt32 % 65536).toInt32 :: st) S I k n) : J G d mt pc ls (.int x :: st) S I k n := by
  obtain ⟨⟨p, l, e, R, s, m⟩, ⟨args, below, meth, c⟩, w, Q⟩ := G
  intro hF H locs la hz hP hS hl
  obtain ⟨⟨hx, hb, hml, hown, hts⟩, hK, hsz, hlk, hnm, hfr, hbud, hrt⟩ := id hF
  exact lv_i2c hx hb hd rfl (h hF H locs la hz hP hS hl)

theorem J_dup {v : Value} (hd : decode mt.2.1 pc = .ok (.dup, 1)) (hv : v.category = 1) (h : J G d mt (pc + 1) ls (v :: v :: st) S I k n) : J G d mt pc ls (v :: st) S I k n := by
  obtain ⟨⟨p, l, e, R, s, m⟩, ⟨args, below, meth, c⟩, w, Q⟩ := G
  intro hF H locs la hz hP hS hl
  obtain ⟨⟨hx, hb, hml, hown, hts⟩, hK, hsz, hlk, hnm, hfr, hbud, hrt⟩ := id hF
  exact lv_dup hx hb hd (by rw [jv_cat]; exact hv) (h hF H locs la hz hP hS hl)

theorem J_dup2 {v u : Value} (hd : decode mt.2.1 pc = .ok (.dup2, 1)) (hv : v.category = 1) (hu : u.category = 1) (h : J G d mt (pc + 1) ls (v :: u :: v :: u :: st) S I k n) : J G d mt pc ls (v :: u :: st) S I k n := by
  obtain ⟨⟨p, l, e, R, s, m⟩, ⟨args, below, meth, c⟩, w, Q⟩ := G
  intro hF H locs la hz hP hS hl
  obtain ⟨⟨hx, hb, hml, hown, hts⟩, hK, hsz, hlk, hnm, hfr, hbud, hrt⟩ := id hF
  exact lv_dup2_11 hx hb hd (by rw [jv_cat]; exact hv) (by rw [jv_cat]; exact hu) (h hF H locs la hz hP hS hl)

theorem J_icmp_eq {x y : Int32} {off : Int} (hd : decode mt.2.1 pc = .ok (.if_icmp .eq off, 3)) {tgt : Nat} (ht : (pc : Int) + off = (tgt : Int)) (kt : x = y → J G d mt tgt ls st S I k n) (kf : ¬ x = y → J G d mt (pc + 3) ls st S I k n) : J G d mt pc ls (.int y :: .int x :: st) S I k n := by
  obtain ⟨⟨p, l, e, R, s, m⟩, ⟨args, below, meth, c⟩, w, Q⟩ := G
  intro hF H locs la hz hP hS hl
  obtain ⟨⟨hx, hb, hml, hown, hts⟩, hK, hsz, hlk, hnm, hfr, hbud, hrt⟩ := id hF
  exact lv_icmp_eq hx hb hd ht (fun q => kt q hF H locs la hz hP hS hl) (fun q => kf q hF H locs la hz hP hS hl)

theorem J_icmp_ne {x y : Int32} {off : Int} (hd : decode mt.2.1 pc = .ok (.if_icmp .ne off, 3)) {tgt : Nat} (ht : (pc : Int) + off = (tgt : Int)) (kt : ¬ x = y → J G d mt tgt ls st S I k n) (kf : x = y → J G d mt (pc + 3) ls st S I k n) : J G d mt pc ls (.int y :: .int x :: st) S I k n := by
  obtain ⟨⟨p, l, e, R, s, m⟩, ⟨args, below, meth, c⟩, w, Q⟩ := G
  intro hF H locs la hz hP hS hl
  obtain ⟨⟨hx, hb, hml, hown, hts⟩, hK, hsz, hlk, hnm, hfr, hbud, hrt⟩ := id hF
  exact lv_icmp_ne hx hb hd ht (fun q => kt q hF H locs la hz hP hS hl) (fun q => kf q hF H locs la hz hP hS hl)

theorem J_icmp_lt {x y : Int32} {off : Int} (hd : decode mt.2.1 pc = .ok (.if_icmp .lt off, 3)) {tgt : Nat} (ht : (pc : Int) + off = (tgt : Int)) (kt : x < y → J G d mt tgt ls st S I k n) (kf : ¬ x < y → J G d mt (pc + 3) ls st S I k n) : J G d mt pc ls (.int y :: .int x :: st) S I k n := by
  obtain ⟨⟨p, l, e, R, s, m⟩, ⟨args, below, meth, c⟩, w, Q⟩ := G
  intro hF H locs la hz hP hS hl
  obtain ⟨⟨hx, hb, hml, hown, hts⟩, hK, hsz, hlk, hnm, hfr, hbud, hrt⟩ := id hF
  exact lv_icmp_lt hx hb hd ht (fun q => kt q hF H locs la hz hP hS hl) (fun q => kf q hF H locs la hz hP hS hl)

theorem J_icmp_ge {x y : Int32} {off : Int} (hd : decode mt.2.1 pc = .ok (.if_icmp .ge off, 3)) {tgt : Nat} (ht : (pc : Int) + off = (tgt : Int)) (kt : y ≤ x → J G d mt tgt ls st S I k n) (kf : ¬ y ≤ x → J G d mt (pc + 3) ls st S I k n) : J G d mt pc ls (.int y :: .int x :: st) S I k n := by
  obtain ⟨⟨p, l, e, R, s, m⟩, ⟨args, below, meth, c⟩, w, Q⟩ := G
  intro hF H locs la hz hP hS hl
  obtain ⟨⟨hx, hb, hml, hown, hts⟩, hK, hsz, hlk, hnm, hfr, hbud, hrt⟩ := id hF
  exact lv_icmp_ge hx hb hd ht (fun q => kt q hF H locs la hz hP hS hl) (fun q => kf q hF H locs la hz hP hS hl)

theorem J_icmp_gt {x y : Int32} {off : Int} (hd : decode mt.2.1 pc = .ok (.if_icmp .gt off, 3)) {tgt : Nat} (ht : (pc : Int) + off = (tgt : Int)) (kt : y < x → J G d mt tgt ls st S I k n) (kf : ¬ y < x → J G d mt (pc + 3) ls st S I k n) : J G d mt pc ls (.int y :: .int x :: st) S I k n := by
  obtain ⟨⟨p, l, e, R, s, m⟩, ⟨args, below, meth, c⟩, w, Q⟩ := G
  intro hF H locs la hz hP hS hl
  obtain ⟨⟨hx, hb, hml, hown, hts⟩, hK, hsz, hlk, hnm, hfr, hbud, hrt⟩ := id hF
  exact lv_icmp_gt hx hb hd ht (fun q => kt q hF H locs la hz hP hS hl) (fun q => kf q hF H locs la hz hP hS hl)

theorem J_icmp_le {x y : Int32} {off : Int} (hd : decode mt.2.1 pc = .ok (.if_icmp .le off, 3)) {tgt : Nat} (ht : (pc : Int) + off = (tgt : Int)) (kt : x ≤ y → J G d mt tgt ls st S I k n) (kf : ¬ x ≤ y → J G d mt (pc + 3) ls st S I k n) : J G d mt pc ls (.int y :: .int x :: st) S I k n := by
  obtain ⟨⟨p, l, e, R, s, m⟩, ⟨args, below, meth, c⟩, w, Q⟩ := G
  intro hF H locs la hz hP hS hl
  obtain ⟨⟨hx, hb, hml, hown, hts⟩, hK, hsz, hlk, hnm, hfr, hbud, hrt⟩ := id hF
  exact lv_icmp_le hx hb hd ht (fun q => kt q hF H locs la hz hP hS hl) (fun q => kf q hF H locs la hz hP hS hl)

theorem J_if_eq {x : Int32} {off : Int} (hd : decode mt.2.1 pc = .ok (.ifCond .eq off, 3)) {tgt : Nat} (ht : (pc : Int) + off = (tgt : Int)) (kt : x = 0 → J G d mt tgt ls st S I k n) (kf : ¬ x = 0 → J G d mt (pc + 3) ls st S I k n) : J G d mt pc ls (.int x :: st) S I k n := by
  obtain ⟨⟨p, l, e, R, s, m⟩, ⟨args, below, meth, c⟩, w, Q⟩ := G
  intro hF H locs la hz hP hS hl
  obtain ⟨⟨hx, hb, hml, hown, hts⟩, hK, hsz, hlk, hnm, hfr, hbud, hrt⟩ := id hF
  exact lv_if_eq hx hb hd ht (fun q => kt q hF H locs la hz hP hS hl) (fun q => kf q hF H locs la hz hP hS hl)

theorem J_if_ne {x : Int32} {off : Int} (hd : decode mt.2.1 pc = .ok (.ifCond .ne off, 3)) {tgt : Nat} (ht : (pc : Int) + off = (tgt : Int)) (kt : ¬ x = 0 → J G d mt tgt ls st S I k n) (kf : x = 0 → J G d mt (pc + 3) ls st S I k n) : J G d mt pc ls (.int x :: st) S I k n := by
  obtain ⟨⟨p, l, e, R, s, m⟩, ⟨args, below, meth, c⟩, w, Q⟩ := G
  intro hF H locs la hz hP hS hl
  obtain ⟨⟨hx, hb, hml, hown, hts⟩, hK, hsz, hlk, hnm, hfr, hbud, hrt⟩ := id hF
  exact lv_if_ne hx hb hd ht (fun q => kt q hF H locs la hz hP hS hl) (fun q => kf q hF H locs la hz hP hS hl)

theorem J_if_lt {x : Int32} {off : Int} (hd : decode mt.2.1 pc = .ok (.ifCond .lt off, 3)) {tgt : Nat} (ht : (pc : Int) + off = (tgt : Int)) (kt : x < 0 → J G d mt tgt ls st S I k n) (kf : ¬ x < 0 → J G d mt (pc + 3) ls st S I k n) : J G d mt pc ls (.int x :: st) S I k n := by
  obtain ⟨⟨p, l, e, R, s, m⟩, ⟨args, below, meth, c⟩, w, Q⟩ := G
  intro hF H locs la hz hP hS hl
  obtain ⟨⟨hx, hb, hml, hown, hts⟩, hK, hsz, hlk, hnm, hfr, hbud, hrt⟩ := id hF
  exact lv_if_lt hx hb hd ht (fun q => kt q hF H locs la hz hP hS hl) (fun q => kf q hF H locs la hz hP hS hl)

theorem J_if_ge {x : Int32} {off : Int} (hd : decode mt.2.1 pc = .ok (.ifCond .ge off, 3)) {tgt : Nat} (ht : (pc : Int) + off = (tgt : Int)) (kt : 0 ≤ x → J G d mt tgt ls st S I k n) (kf : ¬ 0 ≤ x → J G d mt (pc + 3) ls st S I k n) : J G d mt pc ls (.int x :: st) S I k n := by
  obtain ⟨⟨p, l, e, R, s, m⟩, ⟨args, below, meth, c⟩, w, Q⟩ := G
  intro hF H locs la hz hP hS hl
  obtain ⟨⟨hx, hb, hml, hown, hts⟩, hK, hsz, hlk, hnm, hfr, hbud, hrt⟩ := id hF
  exact lv_if_ge hx hb hd ht (fun q => kt q hF H locs la hz hP hS hl) (fun q => kf q hF H locs la hz hP hS hl)

theorem J_if_gt {x : Int32} {off : Int} (hd : decode mt.2.1 pc = .ok (.ifCond .gt off, 3)) {tgt : Nat} (ht : (pc : Int) + off = (tgt : Int)) (kt : 0 < x → J G d mt tgt ls st S I k n) (kf : ¬ 0 < x → J G d mt (pc + 3) ls st S I k n) : J G d mt pc ls (.int x :: st) S I k n := by
  obtain ⟨⟨p, l, e, R, s, m⟩, ⟨args, below, meth, c⟩, w, Q⟩ := G
  intro hF H locs la hz hP hS hl
  obtain ⟨⟨hx, hb, hml, hown, hts⟩, hK, hsz, hlk, hnm, hfr, hbud, hrt⟩ := id hF
  exact lv_if_gt hx hb hd ht (fun q => kt q hF H locs la hz hP hS hl) (fun q => kf q hF H locs la hz hP hS hl)

theorem J_if_le {x : Int32} {off : Int} (hd : decode mt.2.1 pc = .ok (.ifCond .le off, 3)) {tgt : Nat} (ht : (pc : Int) + off = (tgt : Int)) (kt : x ≤ 0 → J G d mt tgt ls st S I k n) (kf : ¬ x ≤ 0 → J G d mt (pc + 3) ls st S I k n) : J G d mt pc ls (.int x :: st) S I k n := by
  obtain ⟨⟨p, l, e, R, s, m⟩, ⟨args, below, meth, c⟩, w, Q⟩ := G
  intro hF H locs la hz hP hS hl
  obtain ⟨⟨hx, hb, hml, hown, hts⟩, hK, hsz, hlk, hnm, hfr, hbud, hrt⟩ := id hF
  exact lv_if_le hx hb hd ht (fun q => kt q hF H locs la hz hP hS hl) (fun q => kf q hF H locs la hz hP hS hl)

theorem J_goto {off : Int} {tgt : Nat} (hd : decode mt.2.1 pc = .ok (.goto off, 3)) (ht : (pc : Int) + off = (tgt : Int)) (h : J G d mt tgt ls st S I k n) : J G d mt pc ls st S I k n := by
  obtain ⟨⟨p, l, e, R, s, m⟩, ⟨args, below, meth, c⟩, w, Q⟩ := G
  intro hF H locs la hz hP hS hl
  obtain ⟨⟨hx, hb, hml, hown, hts⟩, hK, hsz, hlk, hnm, hfr, hbud, hrt⟩ := id hF
  exact lv_goto hx hb hd ht (h hF H locs la hz hP hS hl)
theorem J_ifnull_r {off : Int} {x : Nat} (hd : decode mt.2.1 pc = .ok (.ifnull off, 3)) (h : J G d mt (pc + 3) ls st S I k n) : J G d mt pc ls (.ref x :: st) S I k n := by
  obtain ⟨⟨p, l, e, R, s, m⟩, ⟨args, below, meth, c⟩, w, Q⟩ := G
  intro hF H locs la hz hP hS hl
  obtain ⟨⟨hx, hb, hml, hown, hts⟩, hK, hsz, hlk, hnm, hfr, hbud, hrt⟩ := id hF
  exact lv_ifnull hx hb hd (h hF H locs la hz hP hS hl)
theorem J_ifnull_n {off : Int} {tgt : Nat} (hd : decode mt.2.1 pc = .ok (.ifnull off, 3)) (ht : (pc : Int) + off = (tgt : Int)) (h : J G d mt tgt ls st S I k n) : J G d mt pc ls (.null :: st) S I k n := by
  obtain ⟨⟨p, l, e, R, s, m⟩, ⟨args, below, meth, c⟩, w, Q⟩ := G
  intro hF H locs la hz hP hS hl
  obtain ⟨⟨hx, hb, hml, hown, hts⟩, hK, hsz, hlk, hnm, hfr, hbud, hrt⟩ := id hF
  exact lv_ifnullN hx hb hd ht (h hF H locs la hz hP hS hl)
theorem J_ifnonnull_r {off : Int} {tgt x : Nat} (hd : decode mt.2.1 pc = .ok (.ifnonnull off, 3)) (ht : (pc : Int) + off = (tgt : Int)) (h : J G d mt tgt ls st S I k n) : J G d mt pc ls (.ref x :: st) S I k n := by
  obtain ⟨⟨p, l, e, R, s, m⟩, ⟨args, below, meth, c⟩, w, Q⟩ := G
  intro hF H locs la hz hP hS hl
  obtain ⟨⟨hx, hb, hml, hown, hts⟩, hK, hsz, hlk, hnm, hfr, hbud, hrt⟩ := id hF
  exact lv_ifnonnull hx hb hd ht (h hF H locs la hz hP hS hl)
theorem J_ifnonnull_n {off : Int} (hd : decode mt.2.1 pc = .ok (.ifnonnull off, 3)) (h : J G d mt (pc + 3) ls st S I k n) : J G d mt pc ls (.null :: st) S I k n := by
  obtain ⟨⟨p, l, e, R, s, m⟩, ⟨args, below, meth, c⟩, w, Q⟩ := G
  intro hF H locs la hz hP hS hl
  obtain ⟨⟨hx, hb, hml, hown, hts⟩, hK, hsz, hlk, hnm, hfr, hbud, hrt⟩ := id hF
  exact lv_ifnonnullN hx hb hd (h hF H locs la hz hP hS hl)
theorem J_tabOut {dflt lo hi : Int} {offs : Array Int} {len tgt : Nat} {x : Int32} (hd : decode mt.2.1 pc = .ok (.tableswitch dflt lo hi offs, len)) (hx2 : x.toInt < lo ∨ hi < x.toInt) (ht : (pc : Int) + dflt = (tgt : Int)) (h : J G d mt tgt ls st S I k n) : J G d mt pc ls (.int x :: st) S I k n := by
  obtain ⟨⟨p, l, e, R, s, m⟩, ⟨args, below, meth, c⟩, w, Q⟩ := G
  intro hF H locs la hz hP hS hl
  obtain ⟨⟨hx, hb, hml, hown, hts⟩, hK, hsz, hlk, hnm, hfr, hbud, hrt⟩ := id hF
  exact lv_tableOut hx hb hd hx2 ht (h hF H locs la hz hP hS hl)
theorem J_tabIn {dflt lo hi off : Int} {offs : Array Int} {len tgt : Nat} {x : Int32} (hd : decode mt.2.1 pc = .ok (.tableswitch dflt lo hi offs, len)) (h1 : ¬ x.toInt < lo) (h2 : ¬ hi < x.toInt) (ho : offs[(x.toInt - lo).toNat]? = some off) (ht : (pc : Int) + off = (tgt : Int)) (h : J G d mt tgt ls st S I k n) : J G d mt pc ls (.int x :: st) S I k n := by
  obtain ⟨⟨p, l, e, R, s, m⟩, ⟨args, below, meth, c⟩, w, Q⟩ := G
  intro hF H locs la hz hP hS hl
  obtain ⟨⟨hx, hb, hml, hown, hts⟩, hK, hsz, hlk, hnm, hfr, hbud, hrt⟩ := id hF
  exact lv_tableIn hx hb hd h1 h2 ho ht (h hF H locs la hz hP hS hl)
theorem J_look {dflt off : Int} {ps : Array (Int × Int)} {len tgt : Nat} {x : Int32} (hd : decode mt.2.1 pc = .ok (.lookupswitch dflt ps, len)) (hp : (ps.toList.zip (ps.toList.drop 1)).all (fun (a, next) => a.1 < next.1) = true) (ho : Op.lookupswitch.offset ps.toList dflt x.toInt = off) (ht : (pc : Int) + off = (tgt : Int)) (h : J G d mt tgt ls st S I k n) : J G d mt pc ls (.int x :: st) S I k n := by
  obtain ⟨⟨p, l, e, R, s, m⟩, ⟨args, below, meth, c⟩, w, Q⟩ := G
  intro hF H locs la hz hP hS hl
  obtain ⟨⟨hx, hb, hml, hown, hts⟩, hK, hsz, hlk, hnm, hfr, hbud, hrt⟩ := id hF
  exact lv_lookup hx hb hd hp ho ht (h hF H locs la hz hP hS hl)

end JR
