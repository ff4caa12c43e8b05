theorem dJxf58ca_isNaN_12338_0 : decode cJxf58ca_isNaN_12338 0 = .ok (.fload_n 0, 1) := by decide +kernel
theorem dJxf58ca_isNaN_12338_1 : decode cJxf58ca_isNaN_12338 1 = .ok (.fload_n 0, 1) := by decide +kernel
theorem dJxf58ca_isNaN_12338_2 : decode cJxf58ca_isNaN_12338 2 = .ok (.fcmp .l, 1) := by decide +kernel
theorem dJxf58ca_isNaN_12338_3 : decode cJxf58ca_isNaN_12338 3 = .ok (.ifCond .eq 7, 3) := by decide +kernel
theorem dJxf58ca_isNaN_12338_6 : decode cJxf58ca_isNaN_12338 6 = .ok (.iconst 1, 1) := by decide +kernel
theorem dJxf58ca_isNaN_12338_7 : decode cJxf58ca_isNaN_12338 7 = .ok (.goto 4, 3) := by decide +kernel
theorem dJxf58ca_isNaN_12338_10 : decode cJxf58ca_isNaN_12338 10 = .ok (.iconst 0, 1) := by decide +kernel
theorem dJxf58ca_isNaN_12338_11 : decode cJxf58ca_isNaN_12338 11 = .ok (.ireturn, 1) := by decide +kernel
theorem dJxf58ca_floatToIntBits_5c35a_0 : decode cJxf58ca_floatToIntBits_5c35a 0 = .ok (.fload_n 0, 1) := by decide +kernel
theorem dJxf58ca_floatToIntBits_5c35a_1 : decode cJxf58ca_floatToIntBits_5c35a 1 = .ok (.invokestatic 59, 3) := by decide +kernel
theorem dJxf58ca_floatToIntBits_5c35a_4 : decode cJxf58ca_floatToIntBits_5c35a 4 = .ok (.ifCond .ne 8, 3) := by decide +kernel
theorem dJxf58ca_floatToIntBits_5c35a_7 : decode cJxf58ca_floatToIntBits_5c35a 7 = .ok (.fload_n 0, 1) := by decide +kernel
theorem dJxf58ca_floatToIntBits_5c35a_8 : decode cJxf58ca_floatToIntBits_5c35a 8 = .ok (.invokestatic 74, 3) := by decide +kernel
theorem dJxf58ca_floatToIntBits_5c35a_11 : decode cJxf58ca_floatToIntBits_5c35a 11 = .ok (.ireturn, 1) := by decide +kernel
theorem dJxf58ca_floatToIntBits_5c35a_12 : decode cJxf58ca_floatToIntBits_5c35a 12 = .ok (.ldc 77, 2) := by decide +kernel
theorem dJxf58ca_floatToIntBits_5c35a_14 : decode cJxf58ca_floatToIntBits_5c35a 14 = .ok (.ireturn, 1) := by decide +kernel
theorem dJ9_min_7cf53_0 : decode cJ9_min_7cf53 0 = .ok (.iload_n 0, 1) := by decide +kernel
theorem dJ9_min_7cf53_1 : decode cJ9_min_7cf53 1 = .ok (.iload_n 1, 1) := by decide +kernel
theorem dJ9_min_7cf53_2 : decode cJ9_min_7cf53 2 = .ok (.if_icmp .gt 7, 3) := by decide +kernel
theorem dJ9_min_7cf53_5 : decode cJ9_min_7cf53 5 = .ok (.iload_n 0, 1) := by decide +kernel
theorem dJ9_min_7cf53_6 : decode cJ9_min_7cf53 6 = .ok (.goto 4, 3) := by decide +kernel
theorem dJ9_min_7cf53_9 : decode cJ9_min_7cf53 9 = .ok (.iload_n 1, 1) := by decide +kernel
theorem dJ9_min_7cf53_10 : decode cJ9_min_7cf53 10 = .ok (.ireturn, 1) := by decide +kernel
theorem jRes_i {S : jX} {I I1 : jI} {x y : Int32} (h : x = y) (hI : I = I1) : jRes (some (.int y)) S I1 (some (.int x)) S I := ⟨by rw [h], rfl, hI⟩
theorem jRes_v {S : jX} {I I1 : jI} (hI : I = I1) : jRes none S I1 none S I := ⟨rfl, rfl, hI⟩
theorem jRes_o {S : jX} {I I1 : jI} {v : Value} {r : Option Nat} (h : v = va_rf r) (hI : I = I1) : jRes (some (va_rf r)) S I1 (some v) S I := ⟨by rw [h], rfl, hI⟩
theorem jRes_f {S : jX} {I : jI} {x : Int32} {p : Int32 × jI} (h : p = (x, I)) : jRes (some (.int p.1)) S p.2 (some (.int x)) S I := by subst h; exact ⟨rfl, rfl, rfl⟩
section JB0
variable {G : jG} {d : Nat × Nat × Nat} {mt : jMt} {pc : Nat} {ls st : List Value} {S : jX} {I I' : jI} {k n : Nat}
theorem J_iincv {kk : Nat} {z : Int} {x y v : Int32} (hd : decode mt.2.1 pc = .ok (.iinc kk z, 3)) (hk : ls[kk]? = some (.int x)) (hy : Int32.ofInt z = y) (hv : x + y = v) (h : J G d mt (pc + 3) (ls.set kk (.int v)) st S I k n) : J G d mt pc ls st S I k n := by
  subst hv
  exact J_iinc hd hk hy h
theorem J_eq {ls' : List Value} (h1 : ls = ls') (h2 : I = I') (h : J G d mt pc ls' st S I' k n) : J G d mt pc ls st S I k n := by
  subst h1; subst h2; exact h
end JB0
section JB
variable {G : jG} {d d' : Nat × Nat × Nat} {dd : Nat} {mt mc : jMt} {pc ix : Nat} {ls rest : List Value} {S : jX} {I I1 : jI} {k n : Nat} {a1 a2 a3 v : Value}

theorem J_cV0 {o ci : Nat} (hk : jKd S o ci 0) (hci : ci < 8) (hcc : (jC ci).1 = mc.1.cls) (hd : decode mt.2.1 pc = .ok (.invokevirtual ix, 3)) (hL : jML mt.1.cls ix mc.1) (hy : jOkV mc 0) (hM : jM (dd, 0, 0) mc (.ref o :: []) S I (jRes none S I1)) (hdd : dd + 1 ≤ d.1) (hk1 : k ≤ d.2.1) (hn1 : n ≤ d.2.2) (hlen : rest.length ≤ 4) (h : J G d mt (pc + 3) ls (rest) S I1 k n) : J G d mt pc ls (.ref o :: rest) S I k n := by
  refine J_callV (As := []) hk hci hcc hd hL hy hM hdd hk1 hn1 hlen rfl ?_
  rintro _ _ _ ⟨rfl, rfl, rfl⟩
  exact h
theorem J_cV0r {o ci : Nat} (hk : jKd S o ci 0) (hci : ci < 8) (hcc : (jC ci).1 = mc.1.cls) (hd : decode mt.2.1 pc = .ok (.invokevirtual ix, 3)) (hL : jML mt.1.cls ix mc.1) (hy : jOkV mc 0) (hM : jM (dd, 0, 0) mc (.ref o :: []) S I (jRes (some v) S I1)) (hdd : dd + 1 ≤ d.1) (hk1 : k ≤ d.2.1) (hn1 : n ≤ d.2.2) (hlen : rest.length ≤ 4) (h : J G d mt (pc + 3) ls (v :: rest) S I1 k n) : J G d mt pc ls (.ref o :: rest) S I k n := by
  refine J_callV (As := []) hk hci hcc hd hL hy hM hdd hk1 hn1 hlen rfl ?_
  rintro _ _ _ ⟨rfl, rfl, rfl⟩
  exact h
theorem J_cV1 {o ci : Nat} (hk : jKd S o ci 0) (hci : ci < 8) (hcc : (jC ci).1 = mc.1.cls) (hd : decode mt.2.1 pc = .ok (.invokevirtual ix, 3)) (hL : jML mt.1.cls ix mc.1) (hy : jOkV mc 1) (hM : jM (dd, 0, 0) mc (.ref o :: [a1]) S I (jRes none S I1)) (hdd : dd + 1 ≤ d.1) (hk1 : k ≤ d.2.1) (hn1 : n ≤ d.2.2) (hlen : rest.length ≤ 4) (h : J G d mt (pc + 3) ls (rest) S I1 k n) : J G d mt pc ls (a1 :: .ref o :: rest) S I k n := by
  refine J_callV (As := [a1]) hk hci hcc hd hL hy hM hdd hk1 hn1 hlen rfl ?_
  rintro _ _ _ ⟨rfl, rfl, rfl⟩
  exact h
theorem J_cV1r {o ci : Nat} (hk : jKd S o ci 0) (hci : ci < 8) (hcc : (jC ci).1 = mc.1.cls) (hd : decode mt.2.1 pc = .ok (.invokevirtual ix, 3)) (hL : jML mt.1.cls ix mc.1) (hy : jOkV mc 1) (hM : jM (dd, 0, 0) mc (.ref o :: [a1]) S I (jRes (some v) S I1)) (hdd : dd + 1 ≤ d.1) (hk1 : k ≤ d.2.1) (hn1 : n ≤ d.2.2) (hlen : rest.length ≤ 4) (h : J G d mt (pc + 3) ls (v :: rest) S I1 k n) : J G d mt pc ls (a1 :: .ref o :: rest) S I k n := by
  refine J_callV (As := [a1]) hk hci hcc hd hL hy hM hdd hk1 hn1 hlen rfl ?_
  rintro _ _ _ ⟨rfl, rfl, rfl⟩
  exact h
theorem J_cV2 {o ci : Nat} (hk : jKd S o ci 0) (hci : ci < 8) (hcc : (jC ci).1 = mc.1.cls) (hd : decode mt.2.1 pc = .ok (.invokevirtual ix, 3)) (hL : jML mt.1.cls ix mc.1) (hy : jOkV mc 2) (hM : jM (dd, 0, 0) mc (.ref o :: [a1, a2]) S I (jRes none S I1)) (hdd : dd + 1 ≤ d.1) (hk1 : k ≤ d.2.1) (hn1 : n ≤ d.2.2) (hlen : rest.length ≤ 4) (h : J G d mt (pc + 3) ls (rest) S I1 k n) : J G d mt pc ls (a2 :: a1 :: .ref o :: rest) S I k n := by
  refine J_callV (As := [a1, a2]) hk hci hcc hd hL hy hM hdd hk1 hn1 hlen rfl ?_
  rintro _ _ _ ⟨rfl, rfl, rfl⟩
  exact h
theorem J_cV2r {o ci : Nat} (hk : jKd S o ci 0) (hci : ci < 8) (hcc : (jC ci).1 = mc.1.cls) (hd : decode mt.2.1 pc = .ok (.invokevirtual ix, 3)) (hL : jML mt.1.cls ix mc.1) (hy : jOkV mc 2) (hM : jM (dd, 0, 0) mc (.ref o :: [a1, a2]) S I (jRes (some v) S I1)) (hdd : dd + 1 ≤ d.1) (hk1 : k ≤ d.2.1) (hn1 : n ≤ d.2.2) (hlen : rest.length ≤ 4) (h : J G d mt (pc + 3) ls (v :: rest) S I1 k n) : J G d mt pc ls (a2 :: a1 :: .ref o :: rest) S I k n := by
  refine J_callV (As := [a1, a2]) hk hci hcc hd hL hy hM hdd hk1 hn1 hlen rfl ?_
  rintro _ _ _ ⟨rfl, rfl, rfl⟩
  exact h
theorem J_cV3 {o ci : Nat} (hk : jKd S o ci 0) (hci : ci < 8) (hcc : (jC ci).1 = mc.1.cls) (hd : decode mt.2.1 pc = .ok (.invokevirtual ix, 3)) (hL : jML mt.1.cls ix mc.1) (hy : jOkV mc 3) (hM : jM (dd, 0, 0) mc (.ref o :: [a1, a2, a3]) S I (jRes none S I1)) (hdd : dd + 1 ≤ d.1) (hk1 : k ≤ d.2.1) (hn1 : n ≤ d.2.2) (hlen : rest.length ≤ 4) (h : J G d mt (pc + 3) ls (rest) S I1 k n) : J G d mt pc ls (a3 :: a2 :: a1 :: .ref o :: rest) S I k n := by
  refine J_callV (As := [a1, a2, a3]) hk hci hcc hd hL hy hM hdd hk1 hn1 hlen rfl ?_
  rintro _ _ _ ⟨rfl, rfl, rfl⟩
  exact h
theorem J_cV3r {o ci : Nat} (hk : jKd S o ci 0) (hci : ci < 8) (hcc : (jC ci).1 = mc.1.cls) (hd : decode mt.2.1 pc = .ok (.invokevirtual ix, 3)) (hL : jML mt.1.cls ix mc.1) (hy : jOkV mc 3) (hM : jM (dd, 0, 0) mc (.ref o :: [a1, a2, a3]) S I (jRes (some v) S I1)) (hdd : dd + 1 ≤ d.1) (hk1 : k ≤ d.2.1) (hn1 : n ≤ d.2.2) (hlen : rest.length ≤ 4) (h : J G d mt (pc + 3) ls (v :: rest) S I1 k n) : J G d mt pc ls (a3 :: a2 :: a1 :: .ref o :: rest) S I k n := by
  refine J_callV (As := [a1, a2, a3]) hk hci hcc hd hL hy hM hdd hk1 hn1 hlen rfl ?_
  rintro _ _ _ ⟨rfl, rfl, rfl⟩
  exact h
theorem J_cS1 (hd : decode mt.2.1 pc = .ok (.invokestatic ix, 3)) (hL : jML mt.1.cls ix mc.1) (hy : jOkS mc 1) (hM : jM (dd, 0, 0) mc ([a1]) S I (jRes none S I1)) (hdd : dd + 1 ≤ d.1) (hk1 : k ≤ d.2.1) (hn1 : n ≤ d.2.2) (hlen : rest.length ≤ 4) (h : J G d mt (pc + 3) ls (rest) S I1 k n) : J G d mt pc ls (a1 :: rest) S I k n := by
  refine J_callS (As := [a1]) hd hL hy hM hdd hk1 hn1 hlen rfl ?_
  rintro _ _ _ ⟨rfl, rfl, rfl⟩
  exact h
theorem J_cS1r (hd : decode mt.2.1 pc = .ok (.invokestatic ix, 3)) (hL : jML mt.1.cls ix mc.1) (hy : jOkS mc 1) (hM : jM (dd, 0, 0) mc ([a1]) S I (jRes (some v) S I1)) (hdd : dd + 1 ≤ d.1) (hk1 : k ≤ d.2.1) (hn1 : n ≤ d.2.2) (hlen : rest.length ≤ 4) (h : J G d mt (pc + 3) ls (v :: rest) S I1 k n) : J G d mt pc ls (a1 :: rest) S I k n := by
  refine J_callS (As := [a1]) hd hL hy hM hdd hk1 hn1 hlen rfl ?_
  rintro _ _ _ ⟨rfl, rfl, rfl⟩
  exact h
theorem J_cS2 (hd : decode mt.2.1 pc = .ok (.invokestatic ix, 3)) (hL : jML mt.1.cls ix mc.1) (hy : jOkS mc 2) (hM : jM (dd, 0, 0) mc ([a1, a2]) S I (jRes none S I1)) (hdd : dd + 1 ≤ d.1) (hk1 : k ≤ d.2.1) (hn1 : n ≤ d.2.2) (hlen : rest.length ≤ 4) (h : J G d mt (pc + 3) ls (rest) S I1 k n) : J G d mt pc ls (a2 :: a1 :: rest) S I k n := by
  refine J_callS (As := [a1, a2]) hd hL hy hM hdd hk1 hn1 hlen rfl ?_
  rintro _ _ _ ⟨rfl, rfl, rfl⟩
  exact h
theorem J_cS2r (hd : decode mt.2.1 pc = .ok (.invokestatic ix, 3)) (hL : jML mt.1.cls ix mc.1) (hy : jOkS mc 2) (hM : jM (dd, 0, 0) mc ([a1, a2]) S I (jRes (some v) S I1)) (hdd : dd + 1 ≤ d.1) (hk1 : k ≤ d.2.1) (hn1 : n ≤ d.2.2) (hlen : rest.length ≤ 4) (h : J G d mt (pc + 3) ls (v :: rest) S I1 k n) : J G d mt pc ls (a2 :: a1 :: rest) S I k n := by
  refine J_callS (As := [a1, a2]) hd hL hy hM hdd hk1 hn1 hlen rfl ?_
  rintro _ _ _ ⟨rfl, rfl, rfl⟩
  exact h
theorem J_cS3 (hd : decode mt.2.1 pc = .ok (.invokestatic ix, 3)) (hL : jML mt.1.cls ix mc.1) (hy : jOkS mc 3) (hM : jM (dd, 0, 0) mc ([a1, a2, a3]) S I (jRes none S I1)) (hdd : dd + 1 ≤ d.1) (hk1 : k ≤ d.2.1) (hn1 : n ≤ d.2.2) (hlen : rest.length ≤ 4) (h : J G d mt (pc + 3) ls (rest) S I1 k n) : J G d mt pc ls (a3 :: a2 :: a1 :: rest) S I k n := by
  refine J_callS (As := [a1, a2, a3]) hd hL hy hM hdd hk1 hn1 hlen rfl ?_
  rintro _ _ _ ⟨rfl, rfl, rfl⟩
  exact h
theorem J_cS3r (hd : decode mt.2.1 pc = .ok (.invokestatic ix, 3)) (hL : jML mt.1.cls ix mc.1) (hy : jOkS mc 3) (hM : jM (dd, 0, 0) mc ([a1, a2, a3]) S I (jRes (some v) S I1)) (hdd : dd + 1 ≤ d.1) (hk1 : k ≤ d.2.1) (hn1 : n ≤ d.2.2) (hlen : rest.length ≤ 4) (h : J G d mt (pc + 3) ls (v :: rest) S I1 k n) : J G d mt pc ls (a3 :: a2 :: a1 :: rest) S I k n := by
  refine J_callS (As := [a1, a2, a3]) hd hL hy hM hdd hk1 hn1 hlen rfl ?_
  rintro _ _ _ ⟨rfl, rfl, rfl⟩
  exact h
theorem J_cI0 {o : Nat} (hd : decode mt.2.1 pc = .ok (.invokespecial ix, 3)) (hL : jML mt.1.cls ix mc.1) (hy : jOkI mc 0) (hM : jM (dd, 0, 0) mc (.ref o :: []) S I (jRes none S I1)) (hdd : dd + 1 ≤ d.1) (hk1 : k ≤ d.2.1) (hn1 : n ≤ d.2.2) (hlen : rest.length ≤ 4) (h : J G d mt (pc + 3) ls (rest) S I1 k n) : J G d mt pc ls (.ref o :: rest) S I k n := by
  refine J_callI (As := []) hd hL hy hM hdd hk1 hn1 hlen rfl ?_
  rintro _ _ _ ⟨rfl, rfl, rfl⟩
  exact h
theorem jmin_code : Cond.code Lib.Math.min.name Lib.Math.min.code 2 (some .int) ∈ jtw := jw_287
theorem jmin_stat : Cond.static Lib.Math.min.name ∈ jtw := jw_286
theorem jmin_init : Cond.initialized "java/lang/Math" ∈ jtw := jw_9
theorem J_min {x y : Int32} (hd : decode mt.2.1 pc = .ok (.invokestatic ix, 3)) (hL : Cond.methodLink mt.1.cls ix Lib.Math.min.name ∈ jtw) (hdd : 1 ≤ d.1) (hk1 : k ≤ d.2.1) (hn1 : n ≤ d.2.2) (hlen : rest.length ≤ 4) (h : J G d mt (pc + 3) ls (.int (if y < x then y else x) :: rest) S I k n) : J G d mt pc ls (.int y :: .int x :: rest) S I k n := by
  obtain ⟨⟨p, l, e, R, s, m⟩, ⟨args, below, meth, c⟩, w, Q⟩ := G
  intro hF H locs la hz hP hS hl
  obtain ⟨⟨hx, hb, hml, hown, hts⟩, hK, hsz, hlk, hnm, hfr, hbud, hrt⟩ := id hF
  have h8 := jroom w (m := m) (pc := pc) (la := la) (st := []) hlen
  exact va_mmin hx hb (hml.trans hl.1.symm) hown (hts _ hL) (hts _ jmin_stat) (hts _ jmin_init) (hts _ jmin_code) (by omega) (by omega) (by omega) (by omega) hd (h hF H locs la hz hP hS hl)

end JB
theorem jvp {x : Int32} {N : Nat} (h1 : ¬ x < 0) (h2 : x < Int32.ofNat N) (hN : N < 2 ^ 31) : vp_in x N := by
  obtain ⟨j, hj, rfl⟩ := nI_of h1
  refine vp_in_nI ?_ hN
  have h3 := Int32.lt_iff_toInt_lt.mp h2
  have e1 : (nI j).toInt = (j : Int) := nI_toInt hj
  have e2 : (Int32.ofNat N).toInt = (N : Int) := nI_toInt hN
  rw [e1, e2] at h3
  omega
theorem jvp2 {x : Int32} {N : Nat} (h1 : 0 ≤ x) (h2 : x < Int32.ofNat N) (hN : N < 2 ^ 31) : vp_in x N := jvp (Int32.not_lt.mpr h1) h2 hN

