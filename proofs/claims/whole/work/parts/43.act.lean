/-! AN ACT, FROM THE COPY TO THE RING, BESIDE THE REFERENCE'S begins AND acted -/
section PQ
variable {I K X : jI} {a k n : Nat}
theorem beg_a (h : a ≠ 122) : fX7_begins K 120 a = K a := jrow_ne h
theorem beg_b (h : k < 141) : fX7_begins K 120 122 k = K 121 k := by
  show jrow K (120 + 2) (fun k => if k < 141 then K (120 + 1) k else K (120 + 2) k) (120 + 2) k = _
  rw [jrow_eq, if_pos h]
theorem ret_a (h : a ≠ 121) : fX7_returns X 120 a = X a := jrow_ne h
theorem ret_b (h : k < 141) : fX7_returns X 120 121 k = X 122 k := by
  show jrow X (120 + 1) (fun k => if k < 141 then X (120 + 2) k else X (120 + 1) k) (120 + 1) k = _
  rw [jrow_eq, if_pos h]
theorem jkeep_a {st : Nat} (h0 : a ≠ 120) (h3 : a ≠ 123) : jkeep X 120 st a = X a := by
  unfold jkeep
  rw [jset_nf h0, jrow_ne h3]
theorem jkeep_r {st : Nat} : jkeep X 120 st 123 k = if 141 * st ≤ k ∧ k < 141 * st + 141 then X 122 (k - 141 * st) else X 123 k := by
  unfold jkeep
  rw [jset_nf (show (123 : Nat) ≠ 120 by decide)]
  show jrow X (120 + 3) _ (120 + 3) k = _
  rw [jrow_eq]
theorem jkeep_3 {st : Nat} : jkeep X 120 st 120 3 = X 120 3 + 1 := by
  unfold jkeep
  rw [jset_eq]
theorem jkeep_k {st : Nat} (h : k ≠ 3) : jkeep X 120 st 120 k = X 120 k := by
  unfold jkeep
  rw [jset_nj h, jrow_ne (by decide)]
theorem jsh_a (h0 : a ≠ 120) (h3 : a ≠ 123) : jshift X 120 a = X a := by
  unfold jshift
  rw [jset_nf h0, jrow_ne h3]
theorem jsh_r (h : k < 423) : jshift X 120 123 k = X 123 (k + 141) := by
  unfold jshift
  rw [jset_nf (show (123 : Nat) ≠ 120 by decide)]
  show jrow X (120 + 3) _ (120 + 3) k = _
  rw [jrow_eq, if_pos h]
theorem jsh_3 : jshift X 120 120 3 = X 120 3 - 1 := by
  unfold jshift
  rw [jset_eq]
theorem jsh_k (h : k ≠ 3) : jshift X 120 120 k = X 120 k := by
  unfold jshift
  rw [jset_nj h, jrow_ne (by decide)]
/-- how many rows are kept behind an act -/
def nx (n : Nat) : Nat := if n = 4 then 4 else n + 1
theorem sv_a (h0 : a ≠ 120) (h3 : a ≠ 123) : jsaved X 120 a = X a := by
  unfold jsaved
  split
  · rw [jkeep_a h0 h3, jsh_a h0 h3]
  · rw [jkeep_a h0 h3]
theorem sv_k (h : k ≠ 3) : jsaved X 120 120 k = X 120 k := by
  unfold jsaved
  split
  · rw [jkeep_k h, jsh_k h]
  · rw [jkeep_k h]
theorem sv_3 (hn : n ≤ 4) (h : X 120 3 = nI n) : jsaved X 120 120 3 = nI (nx n) := by
  unfold jsaved nx
  by_cases c : n = 4
  · subst c
    rw [if_pos (show X 120 3 = 4 from h), jkeep_3, jsh_3, h]; decide
  · rw [if_neg (show ¬ X 120 3 = 4 by rw [h]; exact fun q => c ((nI_eq (a := n) (b := 4) (by omega) (by decide)).mp q)), jkeep_3, h, if_neg c, nI_1]
theorem sv_n (hn : n ≤ 4) (h : X 120 3 = nI n) (hk : k < 141) : jsaved X 120 123 (141 * (nx n - 1) + k) = X 122 k := by
  unfold jsaved nx
  by_cases c : n = 4
  · subst c
    rw [if_pos (show X 120 3 = 4 from h), if_pos (rfl : (4 : Nat) = 4), jkeep_r, if_pos (by omega), jsh_a (by decide) (by decide), show 141 * (4 - 1) + k - 141 * 3 = k by omega]
  · rw [if_neg (show ¬ X 120 3 = 4 by rw [h]; exact fun q => c ((nI_eq (a := n) (b := 4) (by omega) (by decide)).mp q)), h, nI_clamp (by omega), jkeep_r, if_neg c, Nat.add_sub_cancel, if_pos (by omega)]
    congr 1
    omega
theorem sv_o (hn : n ≤ 4) (h : X 120 3 = nI n) (hk : k < 141) {j : Nat} (h1 : 1 ≤ j) (h2 : j < nx n) : jsaved X 120 123 (141 * (nx n - 1 - j) + k) = X 123 (141 * (n - 1 - (j - 1)) + k) := by
  unfold nx at h2 ⊢
  unfold jsaved
  by_cases c : n = 4
  · subst c
    rw [if_pos rfl] at h2
    rw [if_pos (show X 120 3 = 4 from h), if_pos rfl, jkeep_r, if_neg (by omega), jsh_r (by omega)]
    congr 1
    omega
  · rw [if_neg c] at h2
    rw [if_neg (show ¬ X 120 3 = 4 by rw [h]; exact fun q => c ((nI_eq (a := n) (b := 4) (by omega) (by decide)).mp q)), h, nI_clamp (by omega), jkeep_r, if_neg c, if_neg (by omega)]
    congr 1
    omega
end PQ
set_option maxHeartbeats 1000000 in
theorem act_ok {I : jI} {m : Nat} {p q : Int32 × jI} (hI : Inv I) (hm4 : m < 4) (hm : I 39 2 = nI m)
    (hp : ∀ a, (a < 20 ∨ 39 ≤ a) → a ≠ 117 → a ≠ 119 → p.2 a = I a) (hp1 : p.2 117 1 = I 117 1) (e : p.1 = q.1)
    (hR : (-2000000001) < p.1 → R p.2 20 (q.2 121) ∧ mR (q.2 121))
    (hq : ∀ a, a ≠ 121 → a ≠ 120 → q.2 a = fX7_begins (fX6_settle p.2 p.1 m).2 120 a)
    (hq3 : q.2 120 3 = fX7_begins (fX6_settle p.2 p.1 m).2 120 120 3) (hq5 : q.2 120 5 = fX7_begins (fX6_settle p.2 p.1 m).2 120 120 5) :
    jSet p.2 p.1 m ∧ (fX6_settle p.2 p.1 m).1 = (fX7_acted q.2 120 q.1).1 ∧ Inv (fX7_acted q.2 120 q.1).2 := by
  obtain ⟨i1, i2, ⟨n, m', hn, hm', e1, e2, e3, hs⟩, i4, i5⟩ := hI
  have em : m' = m := (nI_eq (by omega) (by omega)).mp (e2.symm.trans hm)
  subst em
  have P1 : R p.2 1 (I 121) := i1.cg (fun a _ _ => hp a (by omega) (by omega) (by omega)) (fun _ _ => rfl)
  have p1 : p.2 39 1 = nI n := by rw [hp 39 (by omega) (by decide) (by decide)]; exact e1
  have p2 : p.2 39 2 = nI m' := by rw [hp 39 (by omega) (by decide) (by decide)]; exact e2
  rw [beg_a (by decide)] at hq3 hq5
  by_cases c : (-2000000001) < p.1
  · obtain ⟨R20, M20⟩ := hR c
    have eE : fX6_isError p.2 p.1 = 0 := by unfold fX6_isError; rw [if_pos c]
    have k20 : R (fX1_keep p.2 39 1 m') 20 (q.2 121) := R20.cg (fun a _ _ => keep_a P1 (by omega) (by omega)) (fun _ _ => rfl)
    have eK : fX6_settle p.2 p.1 m' = (p.1, fX2_copyFrom (fX1_keep p.2 39 1 m') 1 20) := by unfold fX6_settle; rw [if_pos eE]
    have eA : fX7_acted q.2 120 q.1 = (q.1, jsaved q.2 120) := by unfold fX7_acted; rw [if_pos (e ▸ c)]
    rw [eK] at hq hq3 hq5 ⊢
    rw [eA]
    simp only at hq hq3 hq5 ⊢
    have kR : R (fX2_copyFrom (fX1_keep p.2 39 1 m') 1 20) 1 (q.2 121) := cp_R (Or.inl (by omega)) k20
    have ka : ∀ a, 20 ≤ a → fX2_copyFrom (fX1_keep p.2 39 1 m') 1 20 a = fX1_keep p.2 39 1 m' a := fun a ha => cp_a k20 (Or.inr (by omega))
    have kb : ∀ a, 20 ≤ a → a ≠ 39 → (a < 39 + 2 + 19 * m' ∨ 39 + 2 + 19 * m' + 19 ≤ a) → fX2_copyFrom (fX1_keep p.2 39 1 m') 1 20 a = p.2 a := fun a h1 h2 h3 => (ka a h1).trans (keep_a P1 h2 h3)
    have q3 : q.2 120 3 = nI n := by rw [hq3, kb 120 (by omega) (by decide) (by omega), hp 120 (by omega) (by decide) (by decide)]; exact e3
    have q5 : q.2 120 5 = I 120 5 := by rw [hq5, kb 120 (by omega) (by decide) (by omega), hp 120 (by omega) (by decide) (by decide)]
    have q123 : q.2 123 = I 123 := by rw [hq 123 (by decide) (by decide), beg_a (by decide), kb 123 (by omega) (by decide) (by omega), hp 123 (by omega) (by decide) (by decide)]
    have q122 : ∀ k, k < 141 → q.2 122 k = I 121 k := fun k hk => by rw [hq 122 (by decide) (by decide), beg_b hk, kb 121 (by omega) (by decide) (by omega), hp 121 (by omega) (by decide) (by decide)]
    have La : ∀ a, a < 120 → jsaved q.2 120 a = fX2_copyFrom (fX1_keep p.2 39 1 m') 1 20 a := fun a ha => by rw [sv_a (by omega) (by omega), hq a (by omega) (by omega), beg_a (by omega)]
    refine ⟨⟨hm4, p2, P1.hinv, fun _ => k20.hinv⟩, e, ?_⟩
    have L121 : jsaved q.2 120 121 = q.2 121 := sv_a (by decide) (by decide)
    have nx1 : 1 ≤ nx n := by unfold nx; split <;> omega
    have nx4 : nx n ≤ 4 := by unfold nx; split <;> omega
    refine ⟨?_, ?_, ⟨nx n, (m' + 1) % 4, nx4, by omega, ?_, ?_, sv_3 hn q3, fun j hj => ?_⟩, fun k hk => ?_, ?_⟩
    · rw [L121]; exact kR.cg (fun a h1 h2 => La a (by omega)) (fun _ _ => rfl)
    · rw [L121]; exact M20
    · rw [La 39 (by decide), ka 39 (by decide)]; exact keep_1 P1 hn p1
    · rw [La 39 (by decide), ka 39 (by decide)]; exact keep_2 P1 hm4 p2
    · by_cases j0 : j = 0
      · subst j0
        have es : ((m' + 1) % 4 + 3 - 0) % 4 = m' := by omega
        have er : ∀ k, k < 141 → jsaved q.2 120 123 (141 * (nx n - 1 - 0) + k) = I 121 k := fun k hk => by rw [Nat.sub_zero, sv_n hn q3 hk, q122 k hk]
        rw [es]
        exact ⟨(keep_h P1).cg (fun a h1 h2 => by rw [La a (by omega), ka a (by omega)]) er, i2.cg er⟩
      · obtain ⟨h1, h2⟩ := hs (j - 1) (by unfold nx at hj; split at hj <;> omega)
        have es : ((m' + 1) % 4 + 3 - j) % 4 = (m' + 3 - (j - 1)) % 4 := by omega
        have ne : (m' + 3 - (j - 1)) % 4 ≠ m' := by omega
        have hlt : (m' + 3 - (j - 1)) % 4 < 4 := Nat.mod_lt _ (by decide)
        have er : ∀ k, k < 141 → jsaved q.2 120 123 (141 * (nx n - 1 - j) + k) = I 123 (141 * (n - 1 - (j - 1)) + k) := fun k hk => by rw [sv_o hn q3 hk (by omega) hj, q123]
        rw [es]
        generalize (m' + 3 - (j - 1)) % 4 = u at h1 ne hlt ⊢
        exact ⟨h1.cg (fun a g1 g2 => by rw [La a (by omega), kb a (by omega) (by omega) (by omega), hp a (by omega) (by omega) (by omega)]) er, h2.cg er⟩
    · by_cases ek : k = m'
      · subst ek
        exact (keep_h P1).hinv.cg (fun a g1 g2 => by rw [La a (by omega), ka a (by omega)])
      · exact (i4 k hk).cg (fun a g1 g2 => by rw [La a (by omega), kb a (by omega) (by omega) (by omega), hp a (by omega) (by omega) (by omega)])
    · refine i5.cg ?_ ?_ ?_ ?_
      · rw [La 117 (by decide), kb 117 (by decide) (by decide) (by omega), hp1]
      · rw [sv_k (by decide), q5]
      · rw [La 118 (by decide), kb 118 (by decide) (by decide) (by omega), hp 118 (by omega) (by decide) (by decide)]
      · rw [sv_a (by decide) (by decide), hq 124 (by decide) (by decide), beg_a (by decide), kb 124 (by decide) (by decide) (by omega), hp 124 (by omega) (by decide) (by decide)]
  · have eE : ¬ fX6_isError p.2 p.1 = 0 := by unfold fX6_isError; rw [if_neg c]; decide
    have eK : fX6_settle p.2 p.1 m' = (p.1, p.2) := by unfold fX6_settle; rw [if_neg eE]
    have eA : fX7_acted q.2 120 q.1 = (q.1, fX7_returns q.2 120) := by unfold fX7_acted; rw [if_neg (e ▸ c)]
    rw [eK] at hq hq3 hq5 ⊢
    rw [eA]
    simp only at hq hq3 hq5 ⊢
    have La : ∀ a, a ≠ 120 → a ≠ 121 → a ≠ 122 → fX7_returns q.2 120 a = p.2 a := fun a h0 h1 h2 => by rw [ret_a h1, hq a h1 h0, beg_a h2]
    have Lr : ∀ k, k < 141 → fX7_returns q.2 120 121 k = I 121 k := fun k hk => by rw [ret_b hk, hq 122 (by decide) (by decide), beg_b hk, hp 121 (by omega) (by decide) (by decide)]
    have L123 : fX7_returns q.2 120 123 = I 123 := by rw [La 123 (by decide) (by decide) (by decide), hp 123 (by omega) (by decide) (by decide)]
    refine ⟨⟨hm4, p2, P1.hinv, fun h => absurd h eE⟩, e, ?_⟩
    refine ⟨P1.cg (fun a g1 g2 => La a (by omega) (by omega) (by omega)) Lr, i2.cg Lr, ⟨n, m', hn, hm4, ?_, ?_, ?_, fun j hj => ?_⟩, fun k hk => ?_, ?_⟩
    · rw [La 39 (by decide) (by decide) (by decide)]; exact p1
    · rw [La 39 (by decide) (by decide) (by decide)]; exact p2
    · rw [ret_a (by decide), hq3, hp 120 (by omega) (by decide) (by decide)]; exact e3
    · have hlt : (m' + 3 - j) % 4 < 4 := Nat.mod_lt _ (by decide)
      obtain ⟨h1, h2⟩ := hs j hj
      generalize (m' + 3 - j) % 4 = u at h1 hlt ⊢
      rw [L123]
      exact ⟨h1.cg (fun a g1 g2 => by rw [La a (by omega) (by omega) (by omega), hp a (by omega) (by omega) (by omega)]) (fun _ _ => rfl), h2⟩
    · exact (i4 k hk).cg (fun a g1 g2 => by rw [La a (by omega) (by omega) (by omega), hp a (by omega) (by omega) (by omega)])
    · refine i5.cg ?_ ?_ ?_ ?_
      · rw [La 117 (by decide) (by decide) (by decide), hp1]
      · rw [ret_a (by decide), hq5, hp 120 (by omega) (by decide) (by decide)]
      · rw [La 118 (by decide) (by decide) (by decide), hp 118 (by omega) (by decide) (by decide)]
      · rw [La 124 (by decide) (by decide) (by decide), hp 124 (by omega) (by decide) (by decide)]
