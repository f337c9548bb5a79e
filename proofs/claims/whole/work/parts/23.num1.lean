/-! THE NUMBERS, 1: counting, prefixes, last events. -/
/-- the log's own order: revisions rise, what holds at a is what no later event of the key replaced by a, the row by key is sorted -/
def CJ (r : Nat) (d : LD) : Prop := (∀ i j, i ≤ j → j < eN d → eR d i ≤ eR d j) ∧ (∀ e, e < eN d → eR d e ≤ nI r) ∧ (∀ e, eN d ≤ e → eS d e = 0) ∧ (∀ e, e < eN d → eS d e ≠ 0 → ∀ a, a ≤ nI 300 → (a < eP d e ↔ ∀ x, e < x → x < eN d → eK d x = eK d e → a < eR d x)) ∧ ∃ bn, bnk d bn ∧ (∀ q t, q < eN d → t < eN d → bn q = bn t → q = t) ∧ ∀ q t, q ≤ t → t < eN d → eK d (bn q) ≤ eK d (bn t)
/-- the reference's next event of the same key -/
def nxR (ek ex : Nat → Int32) (n e : Nat) : Prop := (ex e = -1 ∧ ∀ q, e < q → q < n → ek q ≠ ek e) ∨ ∃ j, e < j ∧ j < n ∧ ex e = nI j ∧ ek j = ek e ∧ ∀ q, e < q → q < j → ek q ≠ ek e
/-- log and reference hold the same events -/
def MI (d : LD) (md : ME) : Prop := mN md = eN d ∧ (∀ e, e < eN d → mK md e = eK d e) ∧ (∀ e, e < eN d → mR md e = eR d e) ∧ (∀ e, e < eN d → mS md e = eS d e) ∧ (∀ e, e < eN d → eS d e ≠ 0 → mV md e = eV d e) ∧ (∀ e, e < eN d → nxR (mK md) (mX md) (eN d) e) ∧ ∀ e, e < eN d → eS d e ≠ 0 → eW d e = nI (tf md (eK d e) (e + 1)).1 ∧ eC d e = (tf md (eK d e) (e + 1)).2.1
theorem pre_ex (er : Nat → Int32) (a : Int32) (n : Nat) : ∃ mm, pre er n a mm := by
  induction n with
  | zero => exact ⟨0, Nat.le_refl 0, fun q h => absurd h (Nat.not_lt_zero q), Or.inl rfl⟩
  | succ n ih =>
    obtain ⟨mm, h1, h2, h3⟩ := ih
    rcases h3 with h3 | h3
    · subst h3
      by_cases h : er mm ≤ a
      · refine ⟨mm + 1, Nat.le_refl _, fun q hq => ?_, Or.inl rfl⟩
        rcases ls_or hq with h9 | h9
        · exact h2 q h9
        · subst h9; exact h
      · exact ⟨mm, by omega, h2, Or.inr h⟩
    · exact ⟨mm, by omega, h2, Or.inr h3⟩
theorem lsj_ex (ek : Nat → Int32) (key : Int32) (mm : Nat) : (∀ q, q < mm → ek q ≠ key) ∨ ∃ j, lsj ek key mm j := by
  induction mm with
  | zero => exact Or.inl (fun q h => absurd h (Nat.not_lt_zero q))
  | succ mm ih =>
    by_cases h : ek mm = key
    · exact Or.inr ⟨mm, by omega, h, fun q h1 h2 => absurd h1 (by omega)⟩
    · rcases ih with ih | ⟨j, h1, h2, h3⟩
      · refine Or.inl (fun q hq => ?_)
        rcases ls_or hq with h9 | h9
        · exact ih q h9
        · subst h9; exact h
      · refine Or.inr ⟨j, by omega, h2, fun q hq1 hq2 => ?_⟩
        rcases ls_or hq2 with h9 | h9
        · exact h3 q hq1 h9
        · subst h9; exact h
theorem lsj_u {ek : Nat → Int32} {key : Int32} {mm j t : Nat} (h : lsj ek key mm j) (g : lsj ek key mm t) : j = t := by
  obtain ⟨h1, h2, h3⟩ := h
  obtain ⟨g1, g2, g3⟩ := g
  rcases Nat.lt_trichotomy j t with q | q | q
  · exact absurd g2 (h3 t q g1)
  · exact q
  · exact absurd h2 (g3 j q h1)
/-- with rising revisions the prefix is what is not above a -/
theorem pre_iff {er : Nat → Int32} {n mm : Nat} {a : Int32} (hm : ∀ i j, i ≤ j → j < n → er i ≤ er j) (h : pre er n a mm) {q : Nat} (hq : q < n) : q < mm ↔ er q ≤ a := by
  obtain ⟨h1, h2, h3⟩ := h
  refine ⟨h2 q, fun g => ?_⟩
  rcases Nat.lt_or_ge q mm with h9 | h9
  · exact h9
  · rcases h3 with h3 | h3
    · omega
    · exact absurd (Int32.le_trans (hm mm q h9 hq) g) h3
theorem pre_u {er : Nat → Int32} {n mm m2 : Nat} {a : Int32} (h : pre er n a mm) (g : pre er n a m2) : mm = m2 := by
  obtain ⟨h1, h2, h3⟩ := h
  obtain ⟨g1, g2, g3⟩ := g
  rcases Nat.lt_trichotomy mm m2 with q | q | q
  · rcases h3 with h3 | h3
    · omega
    · exact absurd (g2 mm q) h3
  · exact q
  · rcases g3 with g3 | g3
    · omega
    · exact absurd (h2 m2 q) g3
theorem pre_all {er : Nat → Int32} {n mm : Nat} {a : Int32} (h : pre er n a mm) (hm : ∀ q, q < n → er q ≤ a) : mm = n := by
  obtain ⟨h1, h2, h3⟩ := h
  rcases h3 with h3 | h3
  · exact h3
  · rcases Nat.lt_or_ge mm n with h9 | h9
    · exact absurd (hm mm h9) h3
    · omega
theorem pre_of {er : Nat → Int32} {n : Nat} {a : Int32} (hm : ∀ q, q < n → er q ≤ a) : pre er n a n := ⟨Nat.le_refl _, hm, Or.inl rfl⟩
theorem pre_c {er f : Nat → Int32} {n mm : Nat} {a : Int32} (he : ∀ q, q < n → er q = f q) (h : pre er n a mm) : pre f n a mm := by
  obtain ⟨h1, h2, h3⟩ := h
  refine ⟨h1, fun q hq => by rw [← he q (by omega)]; exact h2 q hq, ?_⟩
  rcases Nat.lt_or_ge mm n with h9 | h9
  · rw [← he mm h9]; exact h3
  · exact Or.inl (by omega)
theorem lsj_c {ek f : Nat → Int32} {key : Int32} {mm j : Nat} (he : ∀ q, q < mm → ek q = f q) (h : lsj ek key mm j) : lsj f key mm j := by
  obtain ⟨h1, h2, h3⟩ := h
  exact ⟨h1, by rw [← he j h1]; exact h2, fun q hq1 hq2 => by rw [← he q hq2]; exact h3 q hq1 hq2⟩
/-- what holds: the last event of the key by a, if it is a set -/
theorem hol_iff {r : Nat} {d : LD} (hC : CJ r d) {key a : Int32} (ha : a ≤ nI 300) {mm : Nat} (hp : pre (eR d) (eN d) a mm) {j : Nat} (hj : j < eN d) : hol d key a j ↔ lsj (eK d) key mm j ∧ eS d j ≠ 0 := by
  obtain ⟨c1, c2, c3, c4, -⟩ := hC
  constructor
  · rintro ⟨h1, h2, h3, h4⟩
    refine ⟨⟨(pre_iff c1 hp hj).mpr h3, h1, fun q hq1 hq2 hk => ?_⟩, h2⟩
    have hqn : q < eN d := by have := hp.1; omega
    have := (c4 j hj h2 a ha).mp h4 q hq1 hqn (by rw [hk, h1])
    exact absurd ((pre_iff c1 hp hqn).mp hq2) (i_ltn this)
  · rintro ⟨⟨h1, h2, h3⟩, h4⟩
    refine ⟨h2, h4, (pre_iff c1 hp hj).mp h1, (c4 j hj h4 a ha).mpr (fun x hx1 hx2 hk => ?_)⟩
    rcases Nat.lt_or_ge x mm with h9 | h9
    · exact absurd (hk.trans h2) (h3 x hx1 h9)
    · exact i_nle (fun z => absurd ((pre_iff c1 hp hx2).mpr z) (by omega))
theorem hol_u {r : Nat} {d : LD} (hC : CJ r d) {key a : Int32} (ha : a ≤ nI 300) {j t : Nat} (hj : j < eN d) (ht : t < eN d) (h : hol d key a j) (g : hol d key a t) : j = t := by
  obtain ⟨mm, hp⟩ := pre_ex (eR d) a (eN d)
  exact lsj_u ((hol_iff hC ha hp hj).mp h).1 ((hol_iff hC ha hp ht).mp g).1
/-- there, there: log and reference -/
theorem thr_iff {r : Nat} {d : LD} {md : ME} (hC : CJ r d) (hM : MI d md) {key a : Int32} (ha : a ≤ nI 300) : thr d key a ↔ thY md key a := by
  obtain ⟨m1, m2, m3, m4, -⟩ := hM
  obtain ⟨mm, hp⟩ := pre_ex (eR d) a (eN d)
  have hq : pre (mR md) (mN md) a mm := by rw [m1]; exact pre_c (fun q hq => (m3 q hq).symm) hp
  constructor
  · rintro ⟨j, hj, h⟩
    have h1 := (hol_iff hC ha hp hj).mp h
    exact ⟨mm, hq, j, lsj_c (fun q hq => (m2 q (by have := hp.1; omega)).symm) h1.1, by rw [m4 j hj]; exact h1.2⟩
  · rintro ⟨m9, h1, j, h2, h3⟩
    have e9 := pre_u hq h1
    subst e9
    have hj : j < eN d := by have := h2.1; have := hp.1; omega
    exact ⟨j, hj, (hol_iff hC ha hp hj).mpr ⟨lsj_c (fun q hq => m2 q (by have := hp.1; omega)) h2, by rw [← m4 j hj]; exact h3⟩⟩
theorem thN_not {md : ME} {key a : Int32} (h : thN md key a) : ¬ thY md key a := by
  rintro ⟨mm, h1, j, h2, h3⟩
  obtain ⟨m2, g1, g2⟩ := h
  have e9 := pre_u h1 g1
  subst e9
  rcases g2 with g2 | ⟨t, g2, g3⟩
  · exact g2 j h2.1 h2.2.1
  · have := lsj_u h2 g2
    subst this
    exact h3 g3
theorem thN_of {md : ME} {key a : Int32} (h : ¬ thY md key a) : thN md key a := by
  obtain ⟨mm, hp⟩ := pre_ex (mR md) a (mN md)
  refine ⟨mm, hp, ?_⟩
  rcases lsj_ex (mK md) key mm with g | ⟨j, g⟩
  · exact Or.inl g
  · refine Or.inr ⟨j, g, ?_⟩
    rcases Classical.em (mS md j = 0) with q | q
    · exact q
    · exact absurd ⟨mm, hp, j, g, q⟩ h
theorem thr_N {r : Nat} {d : LD} {md : ME} (hC : CJ r d) (hM : MI d md) {key a : Int32} (ha : a ≤ nI 300) (h : thN md key a) : ¬ thr d key a := fun q => thN_not h ((thr_iff hC hM ha).mp q)
/-- telling: what the last event says -/
theorem tf_last (md : ME) (key : Int32) (mm : Nat) : ((tf md key mm).1 = 0 ∧ ∀ j, lsj (mK md) key mm j → mS md j = 0) ∨ ∃ j, lsj (mK md) key mm j ∧ mS md j ≠ 0 ∧ tf md key mm = tf md key (j + 1) ∧ (tf md key mm).1 ≠ 0 ∧ (tf md key mm).2.2.1 = mR md j ∧ (tf md key mm).2.2.2 = mV md j := by
  induction mm with
  | zero => exact Or.inl ⟨rfl, fun j h => absurd h.1 (Nat.not_lt_zero j)⟩
  | succ mm ih =>
    by_cases hk : mK md mm = key
    · by_cases hs : mS md mm = 0
      · refine Or.inl ⟨by rw [tf_b rfl hk hs], fun j h => ?_⟩
        rcases ls_or h.1 with h9 | h9
        · exact absurd hk (h.2.2 mm h9 (by omega))
        · rw [h9]; exact hs
      · refine Or.inr ⟨mm, ⟨by omega, hk, fun q h1 h2 => absurd h1 (by omega)⟩, hs, rfl, ?_⟩
        by_cases h0 : (tf md key mm).1 = 0
        · rw [tf_c rfl hk hs h0]; exact ⟨by simp, rfl, rfl⟩
        · rw [tf_d rfl hk hs h0]; exact ⟨by simp, rfl, rfl⟩
    · have e1 : tf md key (mm + 1) = tf md key mm := tf_a rfl hk
      rw [e1]
      have hup : ∀ j, lsj (mK md) key (mm + 1) j → lsj (mK md) key mm j := fun j h => ⟨by
        rcases ls_or h.1 with h9 | h9
        · exact h9
        · exact absurd (by rw [← h9]; exact h.2.1) hk, h.2.1, fun q h1 h2 => h.2.2 q h1 (by omega)⟩
      rcases ih with ⟨i1, i2⟩ | ⟨j, i1, i2⟩
      · exact Or.inl ⟨i1, fun j h => i2 j (hup j h)⟩
      · refine Or.inr ⟨j, ⟨by have := i1.1; omega, i1.2.1, fun q h1 h2 => ?_⟩, i2⟩
        rcases ls_or h2 with h9 | h9
        · exact i1.2.2 q h1 h9
        · rw [h9]; exact hk
theorem tf_c9 {md m2 : ME} {key : Int32} {mm : Nat} (h1 : ∀ q, q < mm → mK md q = mK m2 q) (h2 : ∀ q, q < mm → mR md q = mR m2 q) (h3 : ∀ q, q < mm → mS md q = mS m2 q) (h4 : ∀ q, q < mm → mV md q = mV m2 q) : tf md key mm = tf m2 key mm := by
  induction mm with
  | zero => rfl
  | succ mm ih =>
    have e := ih (fun q hq => h1 q (by omega)) (fun q hq => h2 q (by omega)) (fun q hq => h3 q (by omega)) (fun q hq => h4 q (by omega))
    simp only [tf, e, h1 mm (by omega), h2 mm (by omega), h3 mm (by omega), h4 mm (by omega)]
/-- what is read of a key is what is told of it -/
theorem rd_eq {r : Nat} {d : LD} {md : ME} (hC : CJ r d) (hM : MI d md) {key a w : Int32} (ha : a ≤ nI 300) {x y : Int64} (h : rdv d key a w x) (g : tlR md key a w y) : x = y := by
  obtain ⟨mm, hq, hg⟩ := g
  have hM9 := hM
  obtain ⟨m1, m2, m3, m4, m5, m6, m7⟩ := hM
  have hp : pre (eR d) (eN d) a mm := by rw [m1] at hq; exact pre_c m3 hq
  have hmm := hp.1
  rcases tf_last md key mm with ⟨t1, t2⟩ | ⟨j, t1, t2, t3, t4, t5, t6⟩
  · rcases h with ⟨h1, h2⟩ | ⟨j, hj, h1, h2⟩
    · rcases hg with ⟨-, g⟩ | ⟨g, -⟩
      · rw [h1, g]
      · exact absurd t1 g
    · have h3 := (hol_iff hC ha hp hj).mp h1
      exact absurd (by rw [← m4 j hj]; exact t2 j (lsj_c (fun q hq => (m2 q (by omega)).symm) h3.1)) h3.2
  · have hj : j < eN d := by have := t1.1; omega
    have hl : lsj (eK d) key mm j := lsj_c (fun q hq => m2 q (by omega)) t1
    have hS : eS d j ≠ 0 := by rw [← m4 j hj]; exact t2
    have hh : hol d key a j := (hol_iff hC ha hp hj).mpr ⟨hl, hS⟩
    rcases h with ⟨h1, h2⟩ | ⟨t, ht, h1, h2⟩
    · exact absurd hh (h2 j hj)
    · have e := hol_u hC ha hj ht hh h1
      subst e
      rcases hg with ⟨g, -⟩ | ⟨-, g⟩
      · exact absurd g t4
      · have hk : eK d j = key := hl.2.1
        have h7 := m7 j hj hS
        rw [hk, ← t3] at h7
        have h5 := m5 j hj hS
        have h3 := m3 j hj
        rcases h2 with ⟨e1, e2⟩ | ⟨e0, e1, e2⟩ | ⟨e0, e1, e2, e3⟩ | ⟨e0, e1, e2, e3⟩
        · rcases g with ⟨f1, f2⟩ | ⟨f0, -⟩ | ⟨f0, -⟩ | ⟨f0, -⟩
          · rw [e2, f2, t6, h5]
          · exact absurd e1 f0
          · exact absurd e1 f0
          · exact absurd e1 f0
        · rcases g with ⟨f1, f2⟩ | ⟨f0, f1, f2⟩ | ⟨f0, f1, -⟩ | ⟨f0, f1, -⟩
          · exact absurd f1 e0
          · rw [e2, f2, h7.1]
          · exact absurd e1 f1
          · exact absurd e1 f1
        · rcases g with ⟨f1, f2⟩ | ⟨f0, f1, f2⟩ | ⟨f0, f1, f2, f3⟩ | ⟨f0, f1, f2, -⟩
          · exact absurd f1 e0
          · exact absurd f1 e1
          · rw [e3, f3, h7.2]
          · exact absurd e2 f2
        · rcases g with ⟨f1, f2⟩ | ⟨f0, f1, f2⟩ | ⟨f0, f1, f2, f3⟩ | ⟨f0, f1, f2, f3⟩
          · exact absurd f1 e0
          · exact absurd f1 e1
          · exact absurd f2 e2
          · rw [e3, f3, t5, h3]
