/-! THE NUMBERS, 5: from call to call. -/
def KC (r : Nat) (d : LD) (tz : Nat) (tv tq : Nat → Int32) (zz : Nat) (ka sa : Nat → Int32) (va : Nat → Int64) (zn : Nat) (kb sb : Nat → Int32) (vb : Nat → Int64) (md : ME) (pk pb : Nat → Int32) (pv : Nat → Int64) : Prop :=
  (r ≤ eN d ∧ eN d ≤ 300 ∧ CJ r d ∧ MI d md) ∧ (tz ≤ 20 ∧ ∀ j, j < tz → ¬ badT (tv j) (tq j)) ∧ (zz ≤ 20 ∧ zn ≤ 20 ∧ (∀ j, j < 40 → pb j = nI 0 ∨ pb j = nI 1) ∧ (∀ j, j < zz → pk j = ka j ∧ pb j = sa j ∧ pv j = va j) ∧ ∀ j, j < zn → pk (20 + j) = kb j ∧ pb (20 + j) = sb j ∧ pv (20 + j) = vb j)
section Fx
variable {r : Nat} {d : LD} {tz : Nat} {tv tq ta : Nat → Int32} {tl : Nat → Int64} {zz : Nat} {ka sa : Nat → Int32} {va : Nat → Int64} {zn : Nat} {kb sb : Nat → Int32} {vb : Nat → Int64} {md : ME} {pk pb : Nat → Int32} {pv : Nat → Int64}
theorem g_base (h : KC r d tz tv tq zz ka sa va zn kb sb vb md pk pb pv) : eN d ≤ 300 ∧ r ≤ eN d ∧ (∃ bn, bnk d bn) ∧ tz ≤ 20 ∧ zz ≤ 20 ∧ zn ≤ 20 ∧ nxOk md ∧ (∀ j, j < 40 → pb j = nI 0 ∨ pb j = nI 1) ∧ (∀ j, j < zz → sa j = nI 0 ∨ sa j = nI 1) ∧ (∀ j, j < zn → sb j = nI 0 ∨ sb j = nI 1) ∧ (evs r d ka sa zz + eN d ≤ 300 → evs r d ka sa zz ≠ 0 → apOk r d ka sa va zz) ∧ (evs r d kb sb zn + eN d ≤ 300 → evs r d kb sb zn ≠ 0 → apOk r d kb sb vb zn) := by
  obtain ⟨⟨h1, h2, hC, hM⟩, ⟨h3, h4⟩, h5, h6, h7, h8, h9⟩ := h
  have a1 : ∀ j, j < zz → sa j = nI 0 ∨ sa j = nI 1 := fun j hj => by rw [← (h8 j hj).2.1]; exact h7 j (by omega)
  have a2 : ∀ j, j < zn → sb j = nI 0 ∨ sb j = nI 1 := fun j hj => by rw [← (h9 j hj).2.1]; exact h7 (20 + j) (by omega)
  obtain ⟨bn, hbn, -⟩ := hC.2.2.2.2
  refine ⟨h2, h1, ⟨bn, hbn⟩, h3, h5, h6, fun q hq => ?_, h7, a1, a2, fun g1 g2 => ?_, fun g1 g2 => ?_⟩
  · rw [hM.1] at hq ⊢
    rcases hM.2.2.2.2.2.1 q hq with ⟨z, -⟩ | ⟨j, z1, z2, z3, -⟩
    · exact Or.inl (by rw [z]; decide)
    · exact Or.inr ⟨j, z2, z3⟩
  · exact apOk_of (fr := 0) (pk := pk) (pb := pb) (pv := pv) hC hM (by omega) h1 h5 (fun t ht => by rw [Nat.zero_add]; exact (h8 t ht).1) (fun t ht => by rw [Nat.zero_add]; exact (h8 t ht).2.1) (fun t ht => by rw [Nat.zero_add]; exact (h8 t ht).2.2) a1 g1 g2
  · exact apOk_of (fr := 20) (pk := pk) (pb := pb) (pv := pv) hC hM (by omega) h1 h6 (fun t ht => (h9 t ht).1) (fun t ht => (h9 t ht).2.1) (fun t ht => (h9 t ht).2.2) a2 g1 g2
theorem g_put {of : Nat → Int64} {key : Int32} {v : Int64} {x : Int32} {u : (Nat × LD) × (Nat → Int64)} {y : Int32} {u1 : Int32 × Nat × ME} (h : KC r d tz tv tq zz ka sa va zn kb sb vb md pk pb pv)
    (hp : (x = nI 0 ∧ eN d < 300 ∧ u.1.1 = r + 1 ∧ setR (r + 1) key v d u.1.2 ∧ u.2 0 = (nI (r + 1)).toInt64) ∨ (x = nI 1 ∧ eN d = 300 ∧ u = ((r, d), of)))
    (hq : (mN md = 300 ∧ y = nI 0 ∧ u1 = (nI 1, r, md)) ∨ (mN md ≠ 300 ∧ y = nI (r + 1) ∧ u1.1 = nI 0 ∧ u1.2.1 = r + 1 ∧ addR (nI (r + 1)) key (nI 1) v md u1.2.2)) :
    u1.1 = x ∧ (x = 0 → u.2 0 = y.toInt64) ∧ u1.2.1 = u.1.1 ∧ mN u1.2.2 = eN u.1.2 ∧ KC u.1.1 u.1.2 tz tv tq zz ka sa va zn kb sb vb u1.2.2 pk pb pv := by
  obtain ⟨⟨h1, h2, hC, hM⟩, h3⟩ := h
  have m1 := hM.1
  rcases hp with ⟨p1, p2, p3, p4, p5⟩ | ⟨p1, p2, p3⟩
  · rcases hq with ⟨q1, -⟩ | ⟨-, q1, q2, q3, q4⟩
    · omega
    · obtain ⟨s1, s2⟩ := set_step (CJ_up hC (by omega)) hM (by omega) (by omega) p4 q4
      have s3 := p4.1
      exact ⟨q2.trans p1.symm, fun _ => by rw [p5, q1], q3.trans p3.symm, s2.1, ⟨by omega, by omega, by rw [p3]; exact s1, s2⟩, h3⟩
  · rcases hq with ⟨q1, q2, q3⟩ | ⟨q1, -⟩
    · subst p3; subst q3
      exact ⟨p1.symm, fun z => absurd (p1.symm.trans z) (by decide), rfl, m1, ⟨h1, h2, hC, hM⟩, h3⟩
    · omega
theorem g_remove {of : Nat → Int64} {key : Int32} {x : Int32} {u : (Nat × LD) × (Nat → Int64)} {y : Int32} {u1 : Int32 × Nat × ME} (h : KC r d tz tv tq zz ka sa va zn kb sb vb md pk pb pv)
    (hp : (x = nI 0 ∧ ((u.2 0 = (nI 0).toInt64 ∧ u.1 = (r, d) ∧ ¬ thr d key (nI r)) ∨ (eN d < 300 ∧ thr d key (nI r) ∧ u.2 0 = (nI (r + 1)).toInt64 ∧ u.1.1 = r + 1 ∧ remR (r + 1) key d u.1.2))) ∨ (x = nI 1 ∧ eN d = 300 ∧ thr d key (nI r) ∧ u = ((r, d), of)))
    (hq : (thN md key (nI r) ∧ y = nI 0 ∧ u1 = (nI 0, r, md)) ∨ (thY md key (nI r) ∧ mN md = 300 ∧ y = nI 0 ∧ u1 = (nI 1, r, md)) ∨ (thY md key (nI r) ∧ mN md ≠ 300 ∧ y = nI (r + 1) ∧ u1.1 = nI 0 ∧ u1.2.1 = r + 1 ∧ addR (nI (r + 1)) key (nI 0) 0 md u1.2.2)) :
    u1.1 = x ∧ (x = 0 → u.2 0 = y.toInt64) ∧ u1.2.1 = u.1.1 ∧ mN u1.2.2 = eN u.1.2 ∧ KC u.1.1 u.1.2 tz tv tq zz ka sa va zn kb sb vb u1.2.2 pk pb pv := by
  obtain ⟨⟨h1, h2, hC, hM⟩, h3⟩ := h
  have m1 := hM.1
  have ht := thr_iff hC hM (key := key) (i300 (show r ≤ 300 by omega))
  rcases hp with ⟨p1, ⟨p2, p3, p4⟩ | ⟨p2, p3, p4, p5, p6⟩⟩ | ⟨p1, p2, p3, p4⟩
  · rcases hq with ⟨q1, q2, q3⟩ | ⟨q1, -⟩ | ⟨q1, -⟩
    · subst q3
      rw [p3]
      exact ⟨p1.symm, fun _ => by rw [p2, q2], rfl, m1, ⟨h1, h2, hC, hM⟩, h3⟩
    · exact absurd (ht.mpr q1) p4
    · exact absurd (ht.mpr q1) p4
  · rcases hq with ⟨q1, -⟩ | ⟨-, q1, -⟩ | ⟨-, -, q1, q2, q3, q4⟩
    · exact absurd (ht.mp p3) (thN_not q1)
    · omega
    · have hC1 := CJ_up hC (by omega)
      have t1 : thr d key (nI (r + 1)) := (thr_iff hC1 hM (i300 (by omega))).mpr ((th_up hC hM (by omega) key).mp p3)
      obtain ⟨s1, s2, s3⟩ := rem_step hC1 hM (by omega) (by omega) t1 p6 q4
      exact ⟨q2.trans p1.symm, fun _ => by rw [p4, q1], q3.trans p5.symm, s2.1, ⟨by omega, by omega, by rw [p5]; exact s1, s2⟩, h3⟩
  · rcases hq with ⟨q1, -⟩ | ⟨-, -, q2, q3⟩ | ⟨-, q1, -⟩
    · exact absurd (ht.mp p3) (thN_not q1)
    · subst p4; subst q3
      exact ⟨p1.symm, fun z => absurd (p1.symm.trans z) (by decide), rfl, m1, ⟨h1, h2, hC, hM⟩, h3⟩
    · omega
theorem g_test {key w q : Int32} {v : Int64} {x : Int32} {u : Nat × (Nat → Int32) × (Nat → Int32) × (Nat → Int32) × (Nat → Int64)} {u1 : Int32 × Nat × (Nat → Int32) × (Nat → Int32) × (Nat → Int32) × (Nat → Int64)} (h : KC r d tz tv tq zz ka sa va zn kb sb vb md pk pb pv)
    (hp : (x = nI 0 ∧ ¬ badT w q ∧ tz < 20 ∧ u = (tz + 1, upd ta tz key, upd tv tz w, upd tq tz q, vp_updL tl tz v)) ∨ (x = nI 1 ∧ badT w q ∧ u = (tz, ta, tv, tq, tl)) ∨ (x = nI 2 ∧ ¬ badT w q ∧ tz = 20 ∧ u = (tz, ta, tv, tq, tl)))
    (hq : (badT w q ∧ u1 = (nI 1, tz, ta, tv, tq, tl)) ∨ (¬ badT w q ∧ tz = 20 ∧ u1 = (nI 2, tz, ta, tv, tq, tl)) ∨ (¬ badT w q ∧ tz < 20 ∧ u1 = (nI 0, tz + 1, upd ta tz key, upd tv tz w, upd tq tz q, vp_updL tl tz v))) :
    u1.1 = x ∧ u1.2 = u ∧ KC r d u.1 u.2.2.1 u.2.2.2.1 zz ka sa va zn kb sb vb md pk pb pv := by
  obtain ⟨h1, ⟨h2, h3⟩, h4⟩ := h
  rcases hp with ⟨p1, p2, p3, p4⟩ | ⟨p1, p2, p3⟩ | ⟨p1, p2, p3, p4⟩
  · rcases hq with ⟨q1, -⟩ | ⟨-, q1, -⟩ | ⟨-, -, q2⟩
    · exact absurd q1 p2
    · omega
    · subst p4; subst q2
      refine ⟨p1.symm, rfl, h1, ⟨by show tz + 1 ≤ 20; omega, fun j hj => ?_⟩, h4⟩
      show ¬ badT (upd tv tz w j) (upd tq tz q j)
      rcases ls_or hj with z | z
      · rw [pk_un (by omega), pk_un (by omega)]; exact h3 j z
      · rw [z, pk_us, pk_us]; exact p2
  · rcases hq with ⟨-, q2⟩ | ⟨q1, -⟩ | ⟨q1, -⟩
    · subst p3; subst q2
      exact ⟨p1.symm, rfl, h1, ⟨h2, h3⟩, h4⟩
    · exact absurd p2 q1
    · exact absurd p2 q1
  · rcases hq with ⟨q1, -⟩ | ⟨-, -, q2⟩ | ⟨-, q1, -⟩
    · exact absurd q1 p2
    · subst p4; subst q2
      exact ⟨p1.symm, rfl, h1, ⟨h2, h3⟩, h4⟩
    · omega
theorem g_step {fb key b : Int32} {v : Int64} {x : Int32} {u : Nat × (Nat → Int32) × (Nat → Int32) × (Nat → Int64) × Nat × (Nat → Int32) × (Nat → Int32) × (Nat → Int64)} {u1 : Int32 × Nat × Nat × (Nat → Int32) × (Nat → Int32) × (Nat → Int64)} (h : KC r d tz tv tq zz ka sa va zn kb sb vb md pk pb pv) (hb : b = nI 0 ∨ b = nI 1)
    (hp : (x = nI 0 ∧ ((fb ≠ 0 ∧ zz < 20 ∧ u = (zz + 1, upd ka zz key, upd sa zz b, vp_updL va zz v, zn, kb, sb, vb)) ∨ (fb = 0 ∧ zn < 20 ∧ u = (zz, ka, sa, va, zn + 1, upd kb zn key, upd sb zn b, vp_updL vb zn v)))) ∨ (x = nI 1 ∧ ((fb ≠ 0 ∧ zz = 20) ∨ (fb = 0 ∧ zn = 20)) ∧ u = (zz, ka, sa, va, zn, kb, sb, vb)))
    (hq : (fb ≠ 0 ∧ zz = 20 ∧ u1 = (nI 1, zz, zn, pk, pb, pv)) ∨ (fb = 0 ∧ zn = 20 ∧ u1 = (nI 1, zz, zn, pk, pb, pv)) ∨ (fb ≠ 0 ∧ zz < 20 ∧ u1 = (nI 0, zz + 1, zn, upd pk zz key, upd pb zz b, vp_updL pv zz v)) ∨ (fb = 0 ∧ zn < 20 ∧ u1 = (nI 0, zz, zn + 1, upd pk (20 + zn) key, upd pb (20 + zn) b, vp_updL pv (20 + zn) v))) :
    u1.1 = x ∧ u1.2.1 = u.1 ∧ u1.2.2.1 = u.2.2.2.2.1 ∧ KC r d tz tv tq u.1 u.2.1 u.2.2.1 u.2.2.2.1 u.2.2.2.2.1 u.2.2.2.2.2.1 u.2.2.2.2.2.2.1 u.2.2.2.2.2.2.2 md u1.2.2.2.1 u1.2.2.2.2.1 u1.2.2.2.2.2 := by
  obtain ⟨h1, h2, h5, h6, h7, h8, h9⟩ := h
  have up01 : ∀ t, ∀ j, j < 40 → upd pb t b j = nI 0 ∨ upd pb t b j = nI 1 := fun t j hj => by
    by_cases z : j = t
    · rw [z, pk_us]; exact hb
    · rw [pk_un z]; exact h7 j hj
  rcases hp with ⟨p1, ⟨p2, p3, p4⟩ | ⟨p2, p3, p4⟩⟩ | ⟨p1, p2, p3⟩
  · rcases hq with ⟨-, q1, -⟩ | ⟨q1, -⟩ | ⟨-, -, q1⟩ | ⟨q1, -⟩
    · omega
    · exact absurd q1 p2
    · subst p4; subst q1
      refine ⟨p1.symm, rfl, rfl, h1, h2, by show zz + 1 ≤ 20; omega, h6, up01 zz, fun j hj => ?_, fun j hj => ?_⟩
      · show upd pk zz key j = upd ka zz key j ∧ upd pb zz b j = upd sa zz b j ∧ vp_updL pv zz v j = vp_updL va zz v j
        rcases ls_or hj with z | z
        · rw [pk_un (by omega), pk_un (by omega), pk_un (by omega), pk_un (by omega), pk_uLn (by omega), pk_uLn (by omega)]; exact h8 j z
        · rw [z, pk_us, pk_us, pk_us, pk_us, pk_uLs, pk_uLs]; exact ⟨rfl, rfl, rfl⟩
      · show upd pk zz key (20 + j) = kb j ∧ upd pb zz b (20 + j) = sb j ∧ vp_updL pv zz v (20 + j) = vb j
        rw [pk_un (by omega), pk_un (by omega), pk_uLn (by omega)]; exact h9 j hj
    · exact absurd q1 p2
  · rcases hq with ⟨q1, -⟩ | ⟨-, q1, -⟩ | ⟨q1, -⟩ | ⟨-, -, q1⟩
    · exact absurd p2 q1
    · omega
    · exact absurd p2 q1
    · subst p4; subst q1
      refine ⟨p1.symm, rfl, rfl, h1, h2, h5, by show zn + 1 ≤ 20; omega, up01 (20 + zn), fun j hj => ?_, fun j hj => ?_⟩
      · show upd pk (20 + zn) key j = ka j ∧ upd pb (20 + zn) b j = sa j ∧ vp_updL pv (20 + zn) v j = va j
        have hj : j < zz := hj
        rw [pk_un (by omega), pk_un (by omega), pk_uLn (by omega)]; exact h8 j hj
      · show upd pk (20 + zn) key (20 + j) = upd kb zn key j ∧ upd pb (20 + zn) b (20 + j) = upd sb zn b j ∧ vp_updL pv (20 + zn) v (20 + j) = vp_updL vb zn v j
        rcases ls_or hj with z | z
        · rw [pk_un (by omega), pk_un (by omega), pk_un (by omega), pk_un (by omega), pk_uLn (by omega), pk_uLn (by omega)]; exact h9 j z
        · rw [z, pk_us, pk_us, pk_us, pk_us, pk_uLs, pk_uLs]; exact ⟨rfl, rfl, rfl⟩
  · subst p3
    rcases hq with ⟨-, -, q1⟩ | ⟨-, -, q1⟩ | ⟨q1, q2, -⟩ | ⟨q1, q2, -⟩
    · subst q1
      exact ⟨p1.symm, rfl, rfl, h1, h2, h5, h6, h7, h8, h9⟩
    · subst q1
      exact ⟨p1.symm, rfl, rfl, h1, h2, h5, h6, h7, h8, h9⟩
    · rcases p2 with ⟨-, z⟩ | ⟨z, -⟩
      · omega
      · exact absurd z q1
    · rcases p2 with ⟨z, -⟩ | ⟨-, z⟩
      · exact absurd q1 z
      · omega
end Fx
/-! a deal -/
theorem q_cases {q : Int32} (h1 : ¬ q < -1) (h2 : ¬ nI 1 < q) : q = -1 ∨ q = 0 ∨ q = nI 1 := by
  rw [Int32.lt_iff_toInt_lt] at h1 h2
  have e1 : (-1 : Int32).toInt = -1 := by decide
  have e2 : (nI 1).toInt = 1 := by decide
  have e3 : (0 : Int32).toInt = 0 := by decide
  rw [e1] at h1
  rw [e2] at h2
  rcases (show q.toInt = -1 ∨ q.toInt = 0 ∨ q.toInt = 1 by omega) with h | h | h
  · exact Or.inl (Int32.toInt_inj.mp (h.trans e1.symm))
  · exact Or.inr (Or.inl (Int32.toInt_inj.mp (h.trans e3.symm)))
  · exact Or.inr (Or.inr (Int32.toInt_inj.mp (h.trans e2.symm)))
theorem tst_iff {w q : Int32} {y b : Int64} (h : ¬ badT w q) : tst q y b ↔ tsm q y b := by
  rcases q_cases (fun z => h (Or.inr (Or.inr (Or.inl z)))) (fun z => h (Or.inr (Or.inr (Or.inr z)))) with rfl | rfl | rfl
  · constructor
    · rintro (⟨-, g⟩ | ⟨g, -⟩ | ⟨g, -⟩)
      · exact Or.inl ⟨g, rfl⟩
      · exact absurd (by decide) g
      · exact absurd (by decide) g
    · rintro (⟨g, -⟩ | ⟨-, -, g⟩ | ⟨-, -, g⟩)
      · exact Or.inl ⟨by decide, g⟩
      · exact absurd g (by decide)
      · exact absurd g (by decide)
  · constructor
    · rintro (⟨g, -⟩ | ⟨-, g, -⟩ | ⟨-, -, g⟩)
      · exact absurd g (by decide)
      · exact absurd g (by decide)
      · exact Or.inr (Or.inl ⟨by rw [g]; exact Int64.lt_irrefl, g, by decide⟩)
    · rintro (⟨-, g⟩ | ⟨-, g, -⟩ | ⟨-, -, g⟩)
      · exact absurd g (by decide)
      · exact Or.inr (Or.inr ⟨by decide, by decide, g⟩)
      · exact absurd g (by decide)
  · constructor
    · rintro (⟨g, -⟩ | ⟨-, -, g⟩ | ⟨-, g, -⟩)
      · exact absurd g (by decide)
      · exact Or.inr (Or.inr ⟨Int64.not_lt.mpr (Int64.le_of_lt g), fun z => by rw [z] at g; exact Int64.lt_irrefl g, rfl⟩)
      · exact absurd (by decide) g
    · rintro (⟨-, g⟩ | ⟨-, -, g⟩ | ⟨g1, g2, -⟩)
      · exact absurd g (by decide)
      · exact absurd g (by decide)
      · refine Or.inr (Or.inl ⟨by decide, by decide, ?_⟩)
        rcases Classical.em (b < y) with z | z
        · exact z
        · exact absurd (Int64.le_antisymm (Int64.not_lt.mp z) (Int64.not_lt.mp g1)) g2
section Deal
variable {r : Nat} {d : LD} {md : ME} {tz : Nat} {ta tv tq : Nat → Int32} {tl : Nat → Int64}
theorem all_not (hC : CJ r d) (hM : MI d md) (hr : r ≤ 300) (hb : ∀ j, j < tz → ¬ badT (tv j) (tq j)) (h : allT r d tz ta tv tq tl) (g : notM r md ta tv tq tl tz) : False := by
  obtain ⟨j, hj, y, g1, g2⟩ := g
  obtain ⟨x, h1, h2⟩ := h j hj
  have e := rd_eq hC hM (i300 hr) h1 g1
  subst e
  exact g2 ((tst_iff (hb j hj)).mp h2)
theorem not_all (hC : CJ r d) (hM : MI d md) (hr : r ≤ 300) (hb : ∀ j, j < tz → ¬ badT (tv j) (tq j)) (h : notT r d tz ta tv tq tl) (g : allM r md ta tv tq tl tz) : False := by
  obtain ⟨j, hj, y, g1, g2⟩ := h
  obtain ⟨x, h1, h2⟩ := g j hj
  have e := rd_eq hC hM (i300 hr) g1 h1
  subst e
  exact g2 ((tst_iff (hb j hj)).mpr h2)
theorem deal_side {pk pb : Nat → Int32} {pv : Nat → Int64} {fr zz : Nat} {ka sa : Nat → Int32} {va : Nat → Int64} {ans tz z1 z2 : Nat} {y : Int32} {u1 : Int32 × Nat × ME × Nat × Nat × Nat} (hC : CJ r d) (hM : MI d md) (hrn : r ≤ eN d) (hn : eN d ≤ 300) (hz : zz ≤ 20) (hk : ∀ t, t < zz → pk (fr + t) = ka t) (hb : ∀ t, t < zz → pb (fr + t) = sa t) (hv : ∀ t, t < zz → pv (fr + t) = va t) (h01 : ∀ t, t < zz → sa t = nI 0 ∨ sa t = nI 1)
    (hm : dlM r md pk pb pv fr zz ans tz z1 z2 y u1) :
    (300 < evs r d ka sa zz + eN d ∧ u1.1 = nI 1 ∧ u1.2.1 = r ∧ MI d u1.2.2.1 ∧ u1.2.2.2 = (tz, z1, z2)) ∨ (evs r d ka sa zz + eN d ≤ 300 ∧ y = nI ans ∧ u1.1 = nI 0 ∧ u1.2.2.2 = (0, 0, 0) ∧ ∀ u, dlR r d ka sa va zz u → u1.2.1 = u.1 ∧ u.1 ≤ eN u.2 ∧ eN u.2 ≤ 300 ∧ CJ u.1 u.2 ∧ MI u.2 u1.2.2.1) := by
  obtain ⟨d1, hap, hge, hle1, hm⟩ := hm
  have m1 := hM.1
  have hle : ∀ e, e < mN md → mR md e ≤ nI (r + 1) := fun e he => by rw [m1] at he; rw [hM.2.2.1 e he]; exact (CJ_up hC (by omega)).2.1 e he
  have hnx : ∀ e, e < mN md → nxR (mK md) (mX md) (mN md) e := by rw [m1]; exact hM.2.2.2.2.2.1
  obtain ⟨-, e2, -, e4, e5, e6⟩ := evM (a := nI (r + 1)) (pv := pv) (md := md) (ka := ka) (sa := sa) (th := fun x => thr d x (nI r)) hle (th_up hC hM (by omega)) hk hb hnx zz d1 (Nat.le_refl _) hap
  have ev : mN d1 = mN md + evs r d ka sa zz := e2
  rcases hm with ⟨o1, o2, o3, o4, o5, o6, o7, o8, o9, oa⟩ | ⟨o1, o2, o3, o4, o5, o6⟩
  · refine Or.inl ⟨by omega, o2, o3, back_MI hM (by omega) (by omega) o4 o5 o6 o7 o8 o9 e5 e6, oa⟩
  · refine Or.inr ⟨by omega, o2, o3, o6, fun u hu => ?_⟩
    obtain ⟨u1', hu⟩ := hu
    rcases hu with ⟨z, hu⟩ | ⟨z, hu1, hu2⟩
    · subst hu
      have e9 : d1 = md := e4 z
      rcases o5 with ⟨-, o5⟩ | ⟨o5, -⟩
      · exact ⟨o5, hrn, hn, hC, by rw [o4, e9]; exact hM⟩
      · omega
    · rcases o5 with ⟨o5, -⟩ | ⟨-, o5⟩
      · omega
      · obtain ⟨l1, l2, -⟩ := lockD (va := va) (CJ_up hC (by omega)) hM (by omega) (by omega) hk hb hv h01 zz u.2 d1 (Nat.le_refl _) hu2 hap
        have l3 := l2.1
        exact ⟨o5.trans hu1.symm, by omega, by omega, by rw [hu1]; exact l1, by rw [o4]; exact l2⟩
end Deal
theorem g_deal {r : Nat} {d : LD} {tz : Nat} {tv tq ta : Nat → Int32} {tl : Nat → Int64} {zz : Nat} {ka sa : Nat → Int32} {va : Nat → Int64} {zn : Nat} {kb sb : Nat → Int32} {vb : Nat → Int64} {md : ME} {pk pb : Nat → Int32} {pv : Nat → Int64} {of : Nat → Int64} {x : Int32} {u : (Nat × LD) × Nat × Nat × Nat × (Nat → Int64)} {y : Int32} {u1 : Int32 × Nat × ME × Nat × Nat × Nat} (h : KC r d tz tv tq zz ka sa va zn kb sb vb md pk pb pv)
    (hp : (x = nI 0 ∧ u.2.1 = 0 ∧ u.2.2.1 = 0 ∧ u.2.2.2.1 = 0 ∧ ((allT r d tz ta tv tq tl ∧ u.2.2.2.2 0 = (nI 1).toInt64 ∧ dlR r d ka sa va zz u.1) ∨ (notT r d tz ta tv tq tl ∧ u.2.2.2.2 0 = (nI 2).toInt64 ∧ dlR r d kb sb vb zn u.1))) ∨ (x = nI 1 ∧ ((allT r d tz ta tv tq tl ∧ 300 < evs r d ka sa zz + eN d) ∨ (notT r d tz ta tv tq tl ∧ 300 < evs r d kb sb zn + eN d)) ∧ u = ((r, d), tz, zz, zn, of)))
    (hq : (allM r md ta tv tq tl tz ∧ dlM r md pk pb pv 0 zz 1 tz zz zn y u1) ∨ (notM r md ta tv tq tl tz ∧ dlM r md pk pb pv 20 zn 2 tz zz zn y u1)) :
    u1.1 = x ∧ (x = 0 → u.2.2.2.2 0 = y.toInt64) ∧ u1.2.1 = u.1.1 ∧ mN u1.2.2.1 = eN u.1.2 ∧ u1.2.2.2.1 = u.2.1 ∧ u1.2.2.2.2.1 = u.2.2.1 ∧ u1.2.2.2.2.2 = u.2.2.2.1 ∧ KC u.1.1 u.1.2 u.2.1 tv tq u.2.2.1 ka sa va u.2.2.2.1 kb sb vb u1.2.2.1 pk pb pv := by
  have hb9 := g_base h
  obtain ⟨⟨h1, h2, hC, hM⟩, ⟨h3, h4⟩, h5, h6, h7, h8, h9⟩ := h
  have hr : r ≤ 300 := by omega
  have done : ∀ {ans : Nat}, u1.1 = nI 0 → y = nI ans → u1.2.2.2 = (0, 0, 0) → (u1.2.1 = u.1.1 ∧ u.1.1 ≤ eN u.1.2 ∧ eN u.1.2 ≤ 300 ∧ CJ u.1.1 u.1.2 ∧ MI u.1.2 u1.2.2.1) → x = nI 0 → u.2.1 = 0 → u.2.2.1 = 0 → u.2.2.2.1 = 0 → u.2.2.2.2 0 = (nI ans).toInt64 → u1.1 = x ∧ (x = 0 → u.2.2.2.2 0 = y.toInt64) ∧ u1.2.1 = u.1.1 ∧ mN u1.2.2.1 = eN u.1.2 ∧ u1.2.2.2.1 = u.2.1 ∧ u1.2.2.2.2.1 = u.2.2.1 ∧ u1.2.2.2.2.2 = u.2.2.2.1 ∧ KC u.1.1 u.1.2 u.2.1 tv tq u.2.2.1 ka sa va u.2.2.2.1 kb sb vb u1.2.2.1 pk pb pv := by
    intro ans a1 a2 a3 a4 a5 a6 a7 a8 a9
    refine ⟨a1.trans a5.symm, fun _ => by rw [a9, a2], a4.1, a4.2.2.2.2.1, by rw [a3, a6], by rw [a3, a7], by rw [a3, a8], a4.2, ⟨by omega, fun j hj => absurd hj (by omega)⟩, by omega, by omega, h7, fun j hj => absurd hj (by omega), fun j hj => absurd hj (by omega)⟩
  have full : u1.1 = nI 1 → u1.2.1 = r → MI d u1.2.2.1 → u1.2.2.2 = (tz, zz, zn) → x = nI 1 → u = ((r, d), tz, zz, zn, of) → u1.1 = x ∧ (x = 0 → u.2.2.2.2 0 = y.toInt64) ∧ u1.2.1 = u.1.1 ∧ mN u1.2.2.1 = eN u.1.2 ∧ u1.2.2.2.1 = u.2.1 ∧ u1.2.2.2.2.1 = u.2.2.1 ∧ u1.2.2.2.2.2 = u.2.2.2.1 ∧ KC u.1.1 u.1.2 u.2.1 tv tq u.2.2.1 ka sa va u.2.2.2.1 kb sb vb u1.2.2.1 pk pb pv := by
    intro a1 a2 a3 a4 a5 a6
    subst a6
    exact ⟨a1.trans a5.symm, fun z => absurd (a5.symm.trans z) (by decide), a2, a3.1, by rw [a4], by rw [a4], by rw [a4], ⟨h1, h2, hC, a3⟩, ⟨h3, h4⟩, h5, h6, h7, h8, h9⟩
  have sideA := fun hm => deal_side (fr := 0) (pk := pk) (pb := pb) (pv := pv) (ka := ka) (sa := sa) (va := va) (y := y) (u1 := u1) (ans := 1) (tz := tz) (z1 := zz) (z2 := zn) hC hM h1 h2 h5 (fun t ht => by rw [Nat.zero_add]; exact (h8 t ht).1) (fun t ht => by rw [Nat.zero_add]; exact (h8 t ht).2.1) (fun t ht => by rw [Nat.zero_add]; exact (h8 t ht).2.2) hb9.2.2.2.2.2.2.2.2.1 hm
  have sideB := fun hm => deal_side (fr := 20) (pk := pk) (pb := pb) (pv := pv) (ka := kb) (sa := sb) (va := vb) (y := y) (u1 := u1) (ans := 2) (tz := tz) (z1 := zz) (z2 := zn) hC hM h1 h2 h6 (fun t ht => (h9 t ht).1) (fun t ht => (h9 t ht).2.1) (fun t ht => (h9 t ht).2.2) hb9.2.2.2.2.2.2.2.2.2.1 hm
  rcases hp with ⟨p1, p2, p3, p4, ⟨p5, p6, p7⟩ | ⟨p5, p6, p7⟩⟩ | ⟨p1, ⟨p5, p6⟩ | ⟨p5, p6⟩, p7⟩
  · rcases hq with ⟨-, hq⟩ | ⟨hq, -⟩
    · rcases sideA hq with ⟨s1, -⟩ | ⟨-, s2, s3, s4, s5⟩
      · have := p7.1; omega
      · exact done s3 s2 s4 (s5 _ p7) p1 p2 p3 p4 p6
    · exact (all_not hC hM hr h4 p5 hq).elim
  · rcases hq with ⟨hq, -⟩ | ⟨-, hq⟩
    · exact (not_all hC hM hr h4 p5 hq).elim
    · rcases sideB hq with ⟨s1, -⟩ | ⟨-, s2, s3, s4, s5⟩
      · have := p7.1; omega
      · exact done s3 s2 s4 (s5 _ p7) p1 p2 p3 p4 p6
  · rcases hq with ⟨-, hq⟩ | ⟨hq, -⟩
    · rcases sideA hq with ⟨-, s2, s3, s4, s5⟩ | ⟨s1, -⟩
      · exact full s2 s3 s4 s5 p1 p7
      · omega
    · exact (all_not hC hM hr h4 p5 hq).elim
  · rcases hq with ⟨hq, -⟩ | ⟨-, hq⟩
    · exact (not_all hC hM hr h4 p5 hq).elim
    · rcases sideB hq with ⟨-, s2, s3, s4, s5⟩ | ⟨s1, -⟩
      · exact full s2 s3 s4 s5 p1 p7
      · omega
