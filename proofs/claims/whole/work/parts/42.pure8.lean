/-! COPIES, THE RING, AND AN ACT FROM ITS BEGINNING TO ITS END -/
theorem bR.cg2 {w p p' : Nat} {f t f' t' : Nat → Int32} (h : bR w f t p) (hf : ∀ k, k < 14 → f' k = f k) (ht : ∀ k, k < 12 → t' (p' + k) = t (p + k)) : bR w f' t' p' := by
  unfold bR at h ⊢
  rw [hf 0 (by decide), hf 1 (by decide), hf 2 (by decide), hf 3 (by decide), hf 4 (by decide), hf 5 (by decide), hf 6 (by decide), hf 7 (by decide), hf 8 (by decide), hf 9 (by decide), hf 10 (by decide), hf 11 (by decide), hf 12 (by decide), hf 13 (by decide), ht 0 (by decide), ht 1 (by decide), ht 2 (by decide), ht 3 (by decide), ht 4 (by decide), ht 5 (by decide), ht 6 (by decide), ht 7 (by decide), ht 8 (by decide), ht 9 (by decide), ht 10 (by decide), ht 11 (by decide)]
  exact h
theorem iR.cg2 {p p' : Nat} {f t f' t' : Nat → Int32} (h : iR f t p) (hf : ∀ k, k < 5 → f' k = f k) (ht : ∀ k, k < 5 → t' (p' + k) = t (p + k)) : iR f' t' p' := by
  unfold iR at h ⊢
  rw [hf 0 (by decide), hf 1 (by decide), hf 2 (by decide), hf 3 (by decide), hf 4 (by decide), ht 0 (by decide), ht 1 (by decide), ht 2 (by decide), ht 3 (by decide), ht 4 (by decide)]
  exact h
theorem Rp.cg2 {nb ni w h h' : Nat} {I I' : jI} {s s' : Nat → Int32} (hR : Rp nb ni w I h s)
    (h0 : ∀ j, 4 ≤ j → j ≤ 8 → I' h' j = I h j) (h3 : ∀ j, j < 4 → I' (h' + 3) j = I (h + 3) j) (h4 : ∀ j, j < 4 → I' (h' + 4) j = I (h + 4) j)
    (hb : ∀ i, i < nb → ∀ k, k < 14 → I' (h' + 5 + i) k = I (h + 5 + i) k) (hi : ∀ i, i < ni → ∀ k, k < 5 → I' (h' + 13 + i) k = I (h + 13 + i) k)
    (hs : ∀ k, k < 141 → s' k = s k) : Rp nb ni w I' h' s' := by
  obtain ⟨⟨z1, z2, z3⟩, ⟨e4, s0, e5, s1, e6, s2, e7, e8⟩, a1, a2, a3, a4, a5, a6⟩ := hR
  refine ⟨⟨z1, z2, z3⟩, ⟨(h0 4 (by decide) (by decide)).trans e4, (hs 0 (by decide)).trans s0, (h0 5 (by decide) (by decide)).trans e5, (hs 1 (by decide)).trans s1, (h0 6 (by decide) (by decide)).trans e6, (hs 2 (by decide)).trans s2, ?_, ?_⟩, fun j hj => ?_, fun j hj => ?_, fun i hi2 => ?_, fun i hi2 => ?_, ?_, ?_⟩
  · rw [h0 7 (by decide) (by decide), hs 3 (by decide)]; exact e7
  · rw [h0 8 (by decide) (by decide), hs 4 (by decide)]; exact e8
  · rw [h3 j hj, hs _ (by omega)]; exact a1 j hj
  · rw [h4 j hj, hs _ (by omega)]; exact a2 j hj
  · exact (a3 i hi2).cg2 (hb i hi2) (fun k hk => hs _ (by omega))
  · exact (a4 i hi2).cg2 (hi i hi2) (fun k hk => hs _ (by omega))
  · rw [hs 5 (by decide), a5]; exact (sm_congr (fun k hk => hs _ (by omega))).symm
  · rw [hs 6 (by decide), a6]; exact (sm_congr (fun k hk => hs _ (by omega))).symm
theorem R.cg {h : Nat} {I I' : jI} {s s' : Nat → Int32} (hR : R I h s) (hI : ∀ a, h ≤ a → a < h + 19 → I' a = I a) (hs : ∀ k, k < 141 → s' k = s k) : R I' h s' := by
  obtain ⟨nb, ni, w, hR⟩ := hR
  have z := hR.1
  exact ⟨nb, ni, w, hR.cg2 (fun j _ _ => by rw [hI h (by omega) (by omega)]) (fun j _ => by rw [hI _ (by omega) (by omega)]) (fun j _ => by rw [hI _ (by omega) (by omega)]) (fun i hi k _ => by rw [hI _ (by omega) (by omega)]) (fun i hi k _ => by rw [hI _ (by omega) (by omega)]) hs⟩
section PA
variable {I : jI} {o q : Nat}
theorem hcpB_k (ap : jApart o q) : ∀ n, n ≤ 8 → ∀ i, i < n → ∀ k, k < 14 → hcpB I o q n (o + 5 + i) k = I (q + 5 + i) k
  | 0, _, i, hi, _, _ => absurd hi (by omega)
  | n + 1, hn, i, hi, k, hk => by
    have ap' : o + 19 ≤ q ∨ q + 19 ≤ o := ap
    show jcp (hcpB I o q n) (o + 5 + n) (q + 5 + n) 14 (o + 5 + i) k = _
    by_cases e : i = n
    · subst e
      unfold jcp
      rw [jrow_eq, if_pos hk, hcpB_n (by omega)]
    · unfold jcp
      rw [jrow_ne (by omega)]
      exact hcpB_k ap n (by omega) i (by omega) k hk
theorem hcpI_k (ap : jApart o q) : ∀ n, n ≤ 6 → ∀ i, i < n → ∀ k, k < 5 → hcpI I o q n (o + 13 + i) k = I (q + 13 + i) k
  | 0, _, i, hi, _, _ => absurd hi (by omega)
  | n + 1, hn, i, hi, k, hk => by
    have ap' : o + 19 ≤ q ∨ q + 19 ≤ o := ap
    show jcp (hcpI I o q n) (o + 13 + n) (q + 13 + n) 5 (o + 13 + i) k = _
    by_cases e : i = n
    · subst e
      unfold jcp
      rw [jrow_eq, if_pos hk, hcpI_n (by omega)]
    · unfold jcp
      rw [jrow_ne (by omega)]
      exact hcpI_k ap n (by omega) i (by omega) k hk
theorem cp_n {a : Nat} {nb ni : Nat} (h8 : nb ≤ 8) (h6 : ni ≤ 6) (e4 : I q 4 = nI nb) (e5 : I q 5 = nI ni) (ha : a < o ∨ o + 19 ≤ a) : fX2_copyFrom I o q a = I a := by
  unfold fX2_copyFrom
  rw [e4, e5, nI_clamp (by omega), nI_clamp (by omega), hcpI_n (by omega), hcpB_n (by omega), hcp3_n (by omega)]
theorem cp_Rp {nb ni w : Nat} {s : Nat → Int32} (ap : jApart o q) (hR : Rp nb ni w I q s) : Rp nb ni w (fX2_copyFrom I o q) o s := by
  have ap' : o + 19 ≤ q ∨ q + 19 ≤ o := ap
  obtain ⟨⟨h8, h6, h9⟩, ⟨e4, -, e5, -⟩, -⟩ := id hR
  have e : fX2_copyFrom I o q = hcpI (hcpB (hcp3 I o q) o q nb) o q ni := by
    unfold fX2_copyFrom
    rw [e4, e5, nI_clamp (by omega), nI_clamp (by omega)]
  rw [e]
  refine hR.cg2 (fun j j1 j2 => ?_) (fun j hj => ?_) (fun j hj => ?_) (fun i hi k hk => ?_) (fun i hi k hk => ?_) (fun _ _ => rfl)
  · rw [hcpI_n (by omega), hcpB_n (by omega), hcp3_o, hcp1_k (by omega) (by omega)]
  · rw [hcpI_n (by omega), hcpB_n (by omega)]
    unfold hcp3 jcp
    rw [jrow_ne (by omega), jrow_eq, if_pos hj, hcp1_n (by omega)]
  · rw [hcpI_n (by omega), hcpB_n (by omega)]
    unfold hcp3 jcp
    rw [jrow_eq, if_pos hj, jrow_ne (by omega), hcp1_n (by omega)]
  · rw [hcpI_n (by omega), hcpB_k ap nb h8 i hi k hk, hcp3_n (by omega)]
  · rw [hcpI_k ap ni h6 i hi k hk, hcpB_n (by omega), hcp3_n (by omega)]
theorem cp_R {s : Nat → Int32} (ap : jApart o q) (hR : R I q s) : R (fX2_copyFrom I o q) o s := by
  obtain ⟨nb, ni, w, hR⟩ := hR
  exact ⟨nb, ni, w, cp_Rp ap hR⟩
theorem cp_a {a : Nat} {s : Nat → Int32} (hR : R I q s) (ha : a < o ∨ o + 19 ≤ a) : fX2_copyFrom I o q a = I a := by
  obtain ⟨nb, ni, w, ⟨h8, h6, h9⟩, ⟨e4, -, e5, -⟩, -⟩ := hR
  exact cp_n h8 h6 e4 e5 ha
end PA
theorem R.hinv {I : jI} {h : Nat} {s : Nat → Int32} (hR : R I h s) : jHInv I h := by
  obtain ⟨nb, ni, w, hR⟩ := hR
  obtain ⟨⟨h8, h6, h9⟩, ⟨e4, -, e5, -⟩, -, -, hb, -⟩ := id hR
  refine ⟨⟨nb, h8, e4, fun i hi => ?_⟩, ni, h6, e5⟩
  obtain ⟨⟨g0, g1, g2, g3, g4, g6⟩, ht, hp, hs, hB, hW, hX, h6⟩ := hb i hi
  refine ⟨by rw [g6]; exact h6, ?_, ?_⟩
  · rcases hp with ⟨u, -⟩ | ⟨u, -⟩
    · exact Or.inr u
    · exact Or.inl u
  · rcases hs with ⟨u, -⟩ | ⟨u, -⟩
    · exact Or.inr u
    · exact Or.inl u
theorem jBb.cg {I I' : jI} {b : Nat} (h : jBb I b) (e : I' b = I b) : jBb I' b := by
  unfold jBb at h ⊢
  rw [e]; exact h
theorem jHInv.cg {I I' : jI} {h : Nat} (hI : jHInv I h) (e : ∀ a, h ≤ a → a < h + 19 → I' a = I a) : jHInv I' h := by
  obtain ⟨⟨n, h8, e4, hb⟩, m, h6, e5⟩ := hI
  exact ⟨⟨n, h8, by rw [e h (by omega) (by omega)]; exact e4, fun i hi => (hb i hi).cg (e _ (by omega) (by omega))⟩, m, h6, by rw [e h (by omega) (by omega)]; exact e5⟩
/-- what the numbers of a row of the reference always are -/
def mR (s : Nat → Int32) : Prop := (∃ n : Nat, n ≤ 8 ∧ s 0 = nI n) ∧ (∃ m : Nat, m ≤ 6 ∧ s 1 = nI m) ∧ ∀ j : Nat, j < 6 → jB2 (s (111 + 5 * j))
theorem mR.cg {s s' : Nat → Int32} (h : mR s) (e : ∀ k, k < 141 → s' k = s k) : mR s' := by
  obtain ⟨h1, h2, h3⟩ := h
  exact ⟨by rw [e 0 (by decide)]; exact h1, by rw [e 1 (by decide)]; exact h2, fun j hj => by rw [e _ (by omega)]; exact h3 j hj⟩
def Hs (n m : Nat) (I : jI) : Prop := ∀ j, j < n → R I (39 + 2 + 19 * ((m + 3 - j) % 4)) (fun k => I 123 (141 * (n - 1 - j) + k)) ∧ mR (fun k => I 123 (141 * (n - 1 - j) + k))
def Hr (I : jI) : Prop := ∃ n m : Nat, n ≤ 4 ∧ m < 4 ∧ I 39 1 = nI n ∧ I 39 2 = nI m ∧ I 120 3 = nI n ∧ Hs n m I
def Tx (I : jI) : Prop := ∃ l : Nat, l ≤ 60 ∧ I 117 1 = nI l ∧ I 120 5 = nI l ∧ ∀ k, k < l → I 118 k = I 124 k ∧ ∃ c : Nat, 32 ≤ c ∧ c ≤ 126 ∧ I 124 k = nI c
/-- what holds between the calls: the class's cells 0 to 119, the reference's 120 to 124 -/
def Inv (I : jI) : Prop := R I 1 (I 121) ∧ mR (I 121) ∧ Hr I ∧ (∀ k, k < 4 → jHInv I (39 + 2 + 19 * k)) ∧ Tx I
theorem Tx.cg {I I' : jI} (h : Tx I) (e1 : I' 117 1 = I 117 1) (e2 : I' 120 5 = I 120 5) (e3 : I' 118 = I 118) (e4 : I' 124 = I 124) : Tx I' := by
  unfold Tx at h ⊢
  rw [e1, e2, e3, e4]; exact h
theorem nI_md {m : Nat} (hm : m < 4) : (nI m + 1) - (nI m + 1) / 4 * 4 = nI ((m + 1) % 4) := by
  rw [nI_1]
  exact pk_rem (a := m + 1) (d := 4) (by omega) (by decide) (by decide)
theorem nI_mp {m : Nat} (hm : m < 4) : (nI m + 4 - 1) - (nI m + 4 - 1) / 4 * 4 = nI ((m + 3) % 4) := by
  have e : nI m + 4 - 1 = nI (m + 3) := by
    rw [show (4 : Int32) = nI 4 from rfl, nI_add]; exact nI_pred (m + 3)
  rw [e]
  exact pk_rem (a := m + 3) (d := 4) (by omega) (by decide) (by decide)
section PK
variable {P : jI} {m n : Nat} {s : Nat → Int32}
theorem keep_a {a : Nat} (hR : R P 1 s) (ha : a ≠ 39) (h2 : a < 39 + 2 + 19 * m ∨ 39 + 2 + 19 * m + 19 ≤ a) : fX1_keep P 39 1 m a = P a := by
  unfold fX1_keep
  rw [jset_nf ha, jset_nf ha, cp_a hR h2]
theorem keep_h (hR : R P 1 s) : R (fX1_keep P 39 1 m) (39 + 2 + 19 * m) s := by
  refine (cp_R (o := 39 + 2 + 19 * m) (Or.inr (by omega)) hR).cg (fun a h1 h2 => ?_) (fun _ _ => rfl)
  unfold fX1_keep
  rw [jset_nf (by omega), jset_nf (by omega)]
theorem keep_2 (hR : R P 1 s) (hm : m < 4) (h2 : P 39 2 = nI m) : fX1_keep P 39 1 m 39 2 = nI ((m + 1) % 4) := by
  unfold fX1_keep
  rw [jset_nj (by decide), jset_eq, cp_a hR (by omega), h2]
  exact nI_md hm
theorem keep_1 (hR : R P 1 s) (hn : n ≤ 4) (h1 : P 39 1 = nI n) : fX1_keep P 39 1 m 39 1 = nI (if n = 4 then 4 else n + 1) := by
  unfold fX1_keep
  rw [jset_eq, jset_nj (by decide), cp_a hR (by omega), h1, nI_1]
  by_cases c : n = 4
  · subst c; decide
  · rw [if_neg (show ¬ (4 : Int32) < nI (n + 1) from nI_nlt (a := 4) (b := n + 1) (by omega) (by decide)), if_neg c]
end PK
