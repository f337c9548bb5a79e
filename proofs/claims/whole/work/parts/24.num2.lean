/-! THE NUMBERS, 2: counts, ranks of keys. -/
theorem cnt_surj {Pr : Nat → Prop} {m t : Nat} (h : t < cnt Pr m) : ∃ j, j < m ∧ Pr j ∧ cnt Pr j = t := by
  induction m with
  | zero => exact absurd h (Nat.not_lt_zero t)
  | succ m ih =>
    by_cases hp : Pr m
    · rw [cnt_1 hp] at h
      rcases ls_or h with h9 | h9
      · obtain ⟨j, h1, h2, h3⟩ := ih h9
        exact ⟨j, by omega, h2, h3⟩
      · exact ⟨m, by omega, hp, h9.symm⟩
    · rw [cnt_0 hp] at h
      obtain ⟨j, h1, h2, h3⟩ := ih h
      exact ⟨j, by omega, h2, h3⟩
theorem cnt_cut {Pr : Nat → Prop} {m n : Nat} (hm : m ≤ n) (h : ∀ j, m ≤ j → j < n → ¬ Pr j) : cnt Pr n = cnt Pr m := by
  induction hm with
  | refl => rfl
  | step hm ih =>
    rw [cnt_0 (h _ hm (Nat.lt_succ_self _))]
    exact ih (fun j h1 h2 => h j h1 (Nat.lt_succ_of_lt h2))
theorem cnt_not (Pr : Nat → Prop) (n : Nat) : cnt Pr n + cnt (fun t => ¬ Pr t) n = n := by
  induction n with
  | zero => rfl
  | succ n ih =>
    by_cases h : Pr n
    · rw [cnt_1 h, cnt_0 (Pr := fun t => ¬ Pr t) (fun q => q h)]; omega
    · rw [cnt_0 h, cnt_1 (Pr := fun t => ¬ Pr t) h]; omega
/-- one place taken out -/
theorem cnt_out {Pr : Nat → Prop} {n v : Nat} (hv : v < n) (h : Pr v) : cnt (fun t => Pr t ∧ t ≠ v) n + 1 = cnt Pr n := by
  have e := cnt_upd (P := fun t => Pr t ∧ t ≠ v) (Q := Pr) hv (fun j _ hne => ⟨fun q => q.1, fun q => ⟨q, hne⟩⟩)
  rw [if_pos h, if_neg (fun q => q.2 rfl)] at e
  exact e
theorem cnt_inj {Qr : Nat → Prop} {f : Nat → Nat} {n : Nat} : ∀ (m : Nat) (Pr : Nat → Prop), (∀ t, t < m → Qr t → f t < n ∧ Pr (f t)) → (∀ t u, t < m → u < m → f t = f u → t = u) → cnt Qr m ≤ cnt Pr n := by
  intro m
  induction m with
  | zero => intro Pr _ _; exact Nat.zero_le _
  | succ m ih =>
    intro Pr h1 h2
    by_cases hq : Qr m
    · have h3 := h1 m (by omega) hq
      have e := cnt_out h3.1 h3.2
      have g := ih (fun t => Pr t ∧ t ≠ f m) (fun t ht hqt => ⟨(h1 t (by omega) hqt).1, (h1 t (by omega) hqt).2, fun q => by have := h2 t m (by omega) (by omega) q; omega⟩) (fun t u ht hu => h2 t u (by omega) (by omega))
      rw [cnt_1 hq]; omega
    · rw [cnt_0 hq]
      exact ih Pr (fun t ht => h1 t (by omega)) (fun t u ht hu => h2 t u (by omega) (by omega))
/-- a count is the same in another order -/
theorem cnt_perm {Pr : Nat → Prop} {f : Nat → Nat} {n : Nat} (h1 : ∀ t, t < n → f t < n) (h2 : ∀ t u, t < n → u < n → f t = f u → t = u) : cnt (fun t => Pr (f t)) n = cnt Pr n := by
  have a := cnt_inj (Qr := fun t => Pr (f t)) (f := f) (n := n) n Pr (fun t ht q => ⟨h1 t ht, q⟩) h2
  have b := cnt_inj (Qr := fun t => ¬ Pr (f t)) (f := f) (n := n) n (fun t => ¬ Pr t) (fun t ht q => ⟨h1 t ht, q⟩) h2
  have c := cnt_not Pr n
  have d := cnt_not (fun t => Pr (f t)) n
  omega
/-- the last by a, by the reference's next -/
theorem last_iff {r : Nat} {d : LD} {md : ME} (hC : CJ r d) (hM : MI d md) (hn : eN d ≤ 2000) {a : Int32} (ha : a ≤ nI 300) {j : Nat} (hj : j < eN d) (hS : eS d j ≠ 0) : lastM md a j ↔ a < eP d j := by
  obtain ⟨m1, m2, m3, m4, m5, m6, m7⟩ := hM
  obtain ⟨c1, c2, c3, c4, -⟩ := hC
  rw [c4 j hj hS a ha]
  have h6 := m6 j hj
  constructor
  · rintro (h | ⟨i, hi, h1, h2⟩) x hx1 hx2 hk
    · rcases h6 with ⟨q1, q2⟩ | ⟨t, q1, q2, q3, q4, q5⟩
      · exact absurd (by rw [m2 x hx2, m2 j hj, hk]) (q2 x hx1 hx2)
      · rw [q3] at h; exact absurd h (nI_pos (by omega))
    · rcases h6 with ⟨q1, q2⟩ | ⟨t, q1, q2, q3, q4, q5⟩
      · exact absurd (by rw [m2 x hx2, m2 j hj, hk]) (q2 x hx1 hx2)
      · rw [q3] at h1
        rw [m1] at hi
        have e := (nI_eq (by omega) (by omega)).mp h1
        subst e
        have hxt : t ≤ x := by
          rcases Nat.lt_or_ge x t with h9 | h9
          · exact absurd (by rw [m2 x hx2, m2 j hj, hk]) (q5 x hx1 h9)
          · exact h9
        rw [m3 t q2] at h2
        exact Int32.lt_of_lt_of_le (i_nle h2) (c1 t x hxt hx2)
  · intro h
    rcases h6 with ⟨q1, q2⟩ | ⟨t, q1, q2, q3, q4, q5⟩
    · exact Or.inl (by rw [q1]; decide)
    · refine Or.inr ⟨t, by rw [m1]; exact q2, q3, ?_⟩
      rw [m3 t q2]
      exact i_ltn (h t q1 q2 (by rw [← m2 t q2, ← m2 j hj]; exact q4))
theorem gM_iff {r : Nat} {d : LD} {md : ME} (hC : CJ r d) (hM : MI d md) (hn : eN d ≤ 2000) {lw hg a : Int32} (ha : a ≤ nI 300) {mm : Nat} (hp : pre (eR d) (eN d) a mm) {j : Nat} (hj : j < mm) : gM md lw hg a j ↔ wn d lw hg a j := by
  have hjn : j < eN d := by have := hp.1; omega
  have hR := hp.2.1 j hj
  have hM9 := hM
  obtain ⟨m1, m2, m3, m4, -⟩ := hM
  unfold gM wn hld
  rw [m4 j hjn, m2 j hjn]
  constructor
  · rintro ⟨h1, h2, h3, h4⟩
    exact ⟨h3, h4, h2, hR, (last_iff hC hM9 hn ha hjn h2).mp h1⟩
  · rintro ⟨h3, h4, h2, -, h1⟩
    exact ⟨(last_iff hC hM9 hn ha hjn h2).mpr h1, h2, h3, h4⟩
theorem wn_hol {d : LD} {lw hg a : Int32} {j : Nat} (h : wn d lw hg a j) : hol d (eK d j) a j := ⟨rfl, h.2.2⟩
theorem cnt_wn {r : Nat} {d : LD} {md : ME} (hC : CJ r d) (hM : MI d md) (hn : eN d ≤ 2000) {lw hg a : Int32} (ha : a ≤ nI 300) {mm : Nat} (hp : pre (eR d) (eN d) a mm) (Z : Nat → Prop) : cnt (fun t => wn d lw hg a t ∧ Z t) (eN d) = cnt (fun t => gM md lw hg a t ∧ Z t) mm := by
  rw [cnt_cut (m := mm) hp.1 (fun j h1 h2 q => absurd ((pre_iff hC.1 hp h2).mpr q.1.2.2.2.1) (by omega))]
  exact cnt_ext (fun j hj => ⟨fun q => ⟨(gM_iff hC hM hn ha hp hj).mpr q.1, q.2⟩, fun q => ⟨(gM_iff hC hM hn ha hp hj).mp q.1, q.2⟩⟩)
theorem cnt_true {P Z : Nat → Prop} {n : Nat} (h : ∀ t, Z t) : cnt (fun t => P t ∧ Z t) n = cnt P n := cnt_ext (fun j _ => ⟨fun q => q.1, fun q => ⟨q, h j⟩⟩)
theorem cnt_many {r : Nat} {d : LD} {md : ME} (hC : CJ r d) (hM : MI d md) (hn : eN d ≤ 2000) {lw hg a : Int32} (ha : a ≤ nI 300) {mm : Nat} (hp : pre (eR d) (eN d) a mm) : cnt (fun t => wn d lw hg a t) (eN d) = cnt (gM md lw hg a) mm := by
  have e := cnt_wn hC hM hn (lw := lw) (hg := hg) ha hp (fun _ => True)
  rw [cnt_true (fun _ => trivial), cnt_true (fun _ => trivial)] at e
  exact e
/-- the buffer's ranks -/
theorem buf_rank {P : Nat → Prop} {ek b : Nat → Int32} {mm : Nat} (hb : ∀ j, j < mm → P j → b (cnt P j) = ek j) (x : Int32) : ∀ i, i ≤ mm → cnt (fun t => b t < x) (cnt P i) = cnt (fun j => P j ∧ ek j < x) i := by
  intro i
  induction i with
  | zero => intro _; rfl
  | succ i ih =>
    intro hi
    have e := ih (by omega)
    by_cases hp : P i
    · rw [cnt_1 hp]
      have hbi := hb i (by omega) hp
      by_cases hx : ek i < x
      · rw [cnt_1 (Pr := fun j => P j ∧ ek j < x) ⟨hp, hx⟩, cnt_1 (Pr := fun t => b t < x) (by show b (cnt P i) < x; rw [hbi]; exact hx), e]
      · rw [cnt_0 (Pr := fun j => P j ∧ ek j < x) (fun q => hx q.2), cnt_0 (Pr := fun t => b t < x) (by show ¬ b (cnt P i) < x; rw [hbi]; exact hx), e]
    · rw [cnt_0 hp, cnt_0 (Pr := fun j => P j ∧ ek j < x) (fun q => hp q.1), e]
/-- two keys of one rank are one -/
theorem rank_eq {P : Nat → Prop} {ek : Nat → Int32} {m i j : Nat} (hi : i < m) (hj : j < m) (pi : P i) (pj : P j) (h : cnt (fun t => P t ∧ ek t < ek i) m = cnt (fun t => P t ∧ ek t < ek j) m) : ek i = ek j := by
  have aux : ∀ u v, u < m → P u → ek u < ek v → cnt (fun t => P t ∧ ek t < ek u) m < cnt (fun t => P t ∧ ek t < ek v) m := by
    intro u v hu pu huv
    have e := cnt_out (Pr := fun t => P t ∧ ek t < ek v) hu ⟨pu, huv⟩
    have f : cnt (fun t => P t ∧ ek t < ek u) m ≤ cnt (fun t => (P t ∧ ek t < ek v) ∧ t ≠ u) m := by
      refine cnt_inj (f := fun t => t) m _ (fun t ht q => ⟨ht, ⟨q.1, Int32.lt_trans q.2 huv⟩, fun e => ?_⟩) (fun t u _ _ e => e)
      have e : t = u := e
      rw [e] at q
      exact Int32.lt_irrefl q.2
    omega
  rcases Classical.em (ek i < ek j) with q | q
  · have := aux i j hi pi q; omega
  · rcases Classical.em (ek j < ek i) with q2 | q2
    · have := aux j i hj pj q2; omega
    · exact Int32.le_antisymm (i_nlt q2) (i_nlt q)
/-- in the sorted row a place's number is its key's rank -/
theorem row_rank {r : Nat} {d : LD} (hC : CJ r d) {lw hg a : Int32} (ha : a ≤ nI 300) {bn : Nat → Nat} (hb : bnk d bn) (hi : ∀ q t, q < eN d → t < eN d → bn q = bn t → q = t) (hs : ∀ q t, q ≤ t → t < eN d → eK d (bn q) ≤ eK d (bn t)) {q : Nat} (hq : q < eN d) (hw : wn d lw hg a (bn q)) : cnt (fun t => wn d lw hg a (bn t)) q = cnt (fun t => wn d lw hg a t ∧ eK d t < eK d (bn q)) (eN d) := by
  rw [← cnt_perm (Pr := fun t => wn d lw hg a t ∧ eK d t < eK d (bn q)) (f := bn) (fun t ht => (hb t ht).2) hi]
  rw [cnt_cut (m := q) (by omega) (fun j h1 h2 g => absurd g.2 (i_len (hs q j h1 h2)))]
  refine cnt_ext (fun j hj => ⟨fun g => ⟨g, ?_⟩, fun g => g.1⟩)
  rcases Classical.em (eK d (bn j) < eK d (bn q)) with z | z
  · exact z
  · have e : eK d (bn j) = eK d (bn q) := Int32.le_antisymm (hs j q (by omega) hq) (i_nlt z)
    have h1 : hol d (eK d (bn q)) a (bn j) := ⟨e, g.2.2⟩
    have := hol_u hC ha (hb j (by omega)).2 (hb q hq).2 h1 (wn_hol hw)
    have := hi j q (by omega) hq this
    omega
theorem bnk_u {d : LD} (hn : eN d ≤ 2000) {bn b2 : Nat → Nat} (h : bnk d bn) (g : bnk d b2) {q : Nat} (hq : q < eN d) : bn q = b2 q := by
  have h1 := h q hq
  have g1 := g q hq
  exact (nI_eq (by omega) (by omega)).mp (h1.1.symm.trans g1.1)
/-- key number iw of the log is that of the sorted buffer -/
theorem key_eq {r : Nat} {d : LD} {md : ME} (hC : CJ r d) (hM : MI d md) (hn : eN d ≤ 2000) {lw hg a : Int32} (ha : a ≤ nI 300) {bn : Nat → Nat} (hb : bnk d bn) {mm cv iw : Nat} {b b2 : Nat → Int32} (hp : pre (eR d) (eN d) a mm) (hga : gat md lw hg a mm cv b) (hsb : srtB cv b b2 (iw + 1)) (hiw : iw < cv) {q : Nat} (hq : q < eN d) (hw : wn d lw hg a (bn q)) (he : cnt (fun t => wn d lw hg a (bn t)) q = iw) : eK d (bn q) = b2 iw := by
  obtain ⟨b9, hb9, hi, hs⟩ := hC.2.2.2.2
  have hbe : ∀ t, t < eN d → b9 t = bn t := fun t ht => bnk_u hn hb9 hb ht
  have hi' : ∀ q t, q < eN d → t < eN d → bn q = bn t → q = t := fun q t hq ht e => hi q t hq ht (by rw [hbe q hq, hbe t ht]; exact e)
  have hs' : ∀ q t, q ≤ t → t < eN d → eK d (bn q) ≤ eK d (bn t) := fun q t hq ht => by rw [← hbe q (by omega), ← hbe t ht]; exact hs q t hq ht
  have m2 := hM.2.1
  obtain ⟨g1, g2⟩ := hga
  obtain ⟨s1, s2, s3, s4⟩ := hsb
  have hmm := hp.1
  -- the buffer's places come of events
  have hat : ∀ t, t < cv → ∃ j, j < mm ∧ gM md lw hg a j ∧ cnt (gM md lw hg a) j = t ∧ b t = mK md j := fun t ht => by
    obtain ⟨j, h1, h2, h3⟩ := cnt_surj (Pr := gM md lw hg a) (m := mm) (t := t) (by omega)
    exact ⟨j, h1, h2, h3, by rw [← h3]; exact g2 j h1 h2⟩
  have hdist : ∀ t u, t < cv → u < cv → b t = b u → t = u := fun t u ht hu e => by
    obtain ⟨j, h1, h2, h3, h4⟩ := hat t ht
    obtain ⟨i, f1, f2, f3, f4⟩ := hat u hu
    have w1 := (gM_iff hC hM hn ha hp h1).mp h2
    have w2 := (gM_iff hC hM hn ha hp f1).mp f2
    have e2 : eK d j = eK d i := by rw [← m2 j (by omega), ← m2 i (by omega), ← h4, ← f4]; exact e
    have := hol_u hC ha (by omega) (by omega) (show hol d (eK d i) a j from ⟨e2, w1.2.2⟩) (wn_hol w2)
    rw [← h3, ← f3, this]
  have hd2 := s3 hdist
  -- the rank of b2 iw
  have r1 : cnt (fun t => b2 t < b2 iw) cv = iw := by
    rw [cnt_cut (m := iw) (by omega) (fun j h1 h2 z => ?_)]
    · rw [cnt_ext (Q := fun _ => True) (fun j hj => ⟨fun _ => trivial, fun _ => ?_⟩)]
      · have := cnt_not (fun _ => True) iw
        rw [cnt_cut (Pr := fun t => ¬ True) (m := 0) (n := iw) (by omega) (fun j _ _ z => z trivial)] at this
        exact this
      · rcases Classical.em (b2 j < b2 iw) with z | z
        · exact z
        · have e := Int32.le_antisymm (s4 j iw (by omega) hj hiw) (i_nlt z)
          have := hd2 j iw (by omega) hiw e
          omega
    · rcases Nat.lt_or_ge iw j with h9 | h9
      · exact absurd z (i_len (s4 iw j (by omega) h9 h2))
      · have : j = iw := by omega
        rw [this] at z
        exact Int32.lt_irrefl z
  have r2 : cnt (fun t => b t < b2 iw) cv = iw := by rw [← s1 (b2 iw)]; exact r1
  rw [g1, buf_rank g2 (b2 iw) mm (Nat.le_refl _)] at r2
  obtain ⟨t0, ht0, e0⟩ := s2 iw hiw
  obtain ⟨j, h1, h2, h3, h4⟩ := hat t0 ht0
  have hjw := (gM_iff hC hM hn ha hp h1).mp h2
  have ek : b2 iw = eK d j := by rw [e0, h4, m2 j (by omega)]
  have r3 := row_rank hC ha hb hi' hs' hq hw
  rw [he] at r3
  rw [ek] at r2 ⊢
  have r4 := cnt_wn hC hM hn (lw := lw) (hg := hg) ha hp (fun t => eK d t < eK d j)
  have r5 : cnt (fun t => gM md lw hg a t ∧ eK d t < eK d j) mm = iw := by
    rw [← r2]
    exact cnt_ext (fun t ht => by show _ ∧ _ ↔ _ ∧ _; rw [m2 t (by omega)])
  exact rank_eq (P := wn d lw hg a) (m := eN d) (hb q hq).2 (by omega) hw hjw (by rw [← r3, r4, r5])
theorem row_cnt {d : LD} {lw hg a : Int32} {bn : Nat → Nat} (hb : bnk d bn) (hi : ∀ q t, q < eN d → t < eN d → bn q = bn t → q = t) : cnt (fun t => wn d lw hg a (bn t)) (eN d) = cnt (fun t => wn d lw hg a t) (eN d) := cnt_perm (Pr := fun t => wn d lw hg a t) (f := bn) (fun t ht => (hb t ht).2) hi
