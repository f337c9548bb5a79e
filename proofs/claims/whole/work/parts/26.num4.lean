/-! THE NUMBERS, 4: the steps of a deal. -/
/-- is the key there when the first i steps are done -/
def thF (ka sa : Nat → Int32) (th : Int32 → Prop) (i : Nat) (key : Int32) : Prop := (∃ j, j < i ∧ ka j = key ∧ (∀ t, j < t → t < i → ka t ≠ key) ∧ sa j ≠ 0) ∨ ((∀ j, j < i → ka j ≠ key) ∧ th key)
theorem thF_y {ka sa : Nat → Int32} {th : Int32 → Prop} {i : Nat} : thF ka sa th (i + 1) (ka i) ↔ sa i ≠ 0 := by
  constructor
  · rintro (⟨j, h1, h2, h3, h4⟩ | ⟨h, -⟩)
    · rcases ls_or h1 with q | q
      · exact absurd rfl (h3 i q (by omega))
      · rw [← q]; exact h4
    · exact absurd rfl (h i (by omega))
  · exact fun h => Or.inl ⟨i, by omega, rfl, fun t h1 h2 => absurd h1 (by omega), h⟩
theorem thF_n {ka sa : Nat → Int32} {th : Int32 → Prop} {i : Nat} {key : Int32} (hk : key ≠ ka i) : thF ka sa th (i + 1) key ↔ thF ka sa th i key := by
  constructor
  · rintro (⟨j, h1, h2, h3, h4⟩ | ⟨h, h2⟩)
    · rcases ls_or h1 with q | q
      · exact Or.inl ⟨j, q, h2, fun t t1 t2 => h3 t t1 (by omega), h4⟩
      · rw [q] at h2; exact absurd h2.symm hk
    · exact Or.inr ⟨fun j hj => h j (by omega), h2⟩
  · rintro (⟨j, h1, h2, h3, h4⟩ | ⟨h, h2⟩)
    · refine Or.inl ⟨j, by omega, h2, fun t t1 t2 => ?_, h4⟩
      rcases ls_or t2 with q | q
      · exact h3 t t1 q
      · rw [q]; exact fun z => hk z.symm
    · refine Or.inr ⟨fun j hj => ?_, h2⟩
      rcases ls_or hj with q | q
      · exact h j q
      · rw [q]; exact fun z => hk z.symm
theorem thY_all {md : ME} {key a : Int32} (h : ∀ e, e < mN md → mR md e ≤ a) : thY md key a ↔ ∃ j, lsj (mK md) key (mN md) j ∧ mS md j ≠ 0 := by
  constructor
  · rintro ⟨mm, hp, j, h1, h2⟩
    rw [pre_all hp h] at h1
    exact ⟨j, h1, h2⟩
  · rintro ⟨j, h1, h2⟩
    exact ⟨_, pre_of h, j, h1, h2⟩
/-- an event more on the reference's side: who is there then -/
theorem add_th {md md1 : ME} {a key b : Int32} {v : Int64} (h : ∀ e, e < mN md → mR md e ≤ a) (hA : addR a key b v md md1) : (∀ e, e < mN md1 → mR md1 e ≤ a) ∧ (thY md1 key a ↔ b ≠ 0) ∧ ∀ k, k ≠ key → (thY md1 k a ↔ thY md k a) := by
  obtain ⟨a1, a2, a3, a4, a5, -⟩ := hA
  have hle : ∀ e, e < mN md1 → mR md1 e ≤ a := fun e he => by
    rw [a1] at he
    rw [a3]
    rcases ls_or he with q | q
    · rw [pk_un (by omega)]; exact h e q
    · rw [q, pk_us]; exact Int32.le_refl _
  have kN : mK md1 (mN md) = key := by rw [a2]; exact pk_us
  have kO : ∀ e, e < mN md → mK md1 e = mK md e := fun e he => by rw [a2]; exact pk_un (by omega)
  have sN : mS md1 (mN md) = b := by rw [a5]; exact pk_us
  have sO : ∀ e, e < mN md → mS md1 e = mS md e := fun e he => by rw [a5]; exact pk_un (by omega)
  refine ⟨hle, ?_, fun k hk => ?_⟩
  · rw [thY_all hle]
    constructor
    · rintro ⟨j, h1, h2⟩
      have : j = mN md := by
        have h3 := h1.1
        rw [a1] at h3
        rcases ls_or h3 with q | q
        · exact absurd kN (h1.2.2 (mN md) q (by omega))
        · exact q
      rw [this, sN] at h2
      exact h2
    · intro hb
      exact ⟨mN md, ⟨by omega, kN, fun q h1 h2 => absurd h2 (by omega)⟩, by rw [sN]; exact hb⟩
  · rw [thY_all hle, thY_all h]
    constructor
    · rintro ⟨j, h1, h2⟩
      have hj : j < mN md := by
        have h3 := h1.1
        rw [a1] at h3
        rcases ls_or h3 with q | q
        · exact q
        · have := h1.2.1; rw [q, kN] at this; exact absurd this.symm hk
      exact ⟨j, ⟨hj, by rw [← kO j hj]; exact h1.2.1, fun q q1 q2 => by rw [← kO q q2]; exact h1.2.2 q q1 (by omega)⟩, by rw [← sO j hj]; exact h2⟩
    · rintro ⟨j, h1, h2⟩
      refine ⟨j, ⟨by have := h1.1; omega, by rw [kO j h1.1]; exact h1.2.1, fun q q1 q2 => ?_⟩, by rw [sO j h1.1]; exact h2⟩
      rw [a1] at q2
      rcases ls_or q2 with z | z
      · rw [kO q z]; exact h1.2.2 q q1 z
      · rw [z, kN]; exact fun y => hk y.symm
/-- the steps on the reference's side: how many events, who is there, what is left of the old -/
theorem evM {a : Int32} {pk pb : Nat → Int32} {pv : Nat → Int64} {fr zz : Nat} {md : ME} {ka sa : Nat → Int32} {th : Int32 → Prop} (hle : ∀ e, e < mN md → mR md e ≤ a) (hth : ∀ k, th k ↔ thY md k a) (hk : ∀ t, t < zz → pk (fr + t) = ka t) (hb : ∀ t, t < zz → pb (fr + t) = sa t) (hnx : ∀ e, e < mN md → nxR (mK md) (mX md) (mN md) e) :
    ∀ (i : Nat) (d1 : ME), i ≤ zz → apM a pk pb pv fr md i d1 → (∀ e, e < mN d1 → mR d1 e ≤ a) ∧ mN d1 = mN md + cnt (fun t => sa t ≠ 0 ∨ itb ka sa th t) i ∧ (∀ k, thY d1 k a ↔ thF ka sa th i k) ∧ (cnt (fun t => sa t ≠ 0 ∨ itb ka sa th t) i = 0 → d1 = md) ∧
      (∀ q, q < mN md → mK d1 q = mK md q ∧ mR d1 q = mR md q ∧ mS d1 q = mS md q ∧ mV d1 q = mV md q) ∧ ∀ q, q < mN md → mX d1 q = mX md q ∨ (mX md q = -1 ∧ ∃ t, mN md ≤ t ∧ t < mN d1 ∧ mX d1 q = nI t) := by
  intro i
  induction i with
  | zero =>
    intro d1 _ h
    have h : d1 = md := h
    subst h
    refine ⟨hle, rfl, fun k => ?_, fun _ => rfl, fun q _ => ⟨rfl, rfl, rfl, rfl⟩, fun q _ => Or.inl rfl⟩
    rw [← hth k]
    exact ⟨fun h => Or.inr ⟨fun j hj => absurd hj (Nat.not_lt_zero j), h⟩, fun h => by
      rcases h with ⟨j, hj, -⟩ | ⟨-, h⟩
      · exact absurd hj (Nat.not_lt_zero j)
      · exact h⟩
  | succ i ih =>
    intro d1 hi h
    obtain ⟨d2, h2, hstep⟩ := h
    obtain ⟨i1, i2, i3, i4, i5, i6⟩ := ih d2 (by omega) h2
    rw [hk i (by omega), hb i (by omega)] at hstep
    have hit : thY d2 (ka i) a ↔ itb ka sa th i := i3 (ka i)
    rcases hstep with ⟨g1, g2⟩ | ⟨g1, g2, g3⟩
    · have hEV : sa i ≠ 0 ∨ itb ka sa th i := g1.elim Or.inl (fun z => Or.inr (hit.mp z))
      have hat := add_th i1 g2
      have g9 := g2
      obtain ⟨a1, a2, a3, a4, a5, mm, hp, a6⟩ := g2
      refine ⟨hat.1, by rw [a1, i2, cnt_1 (Pr := fun t => sa t ≠ 0 ∨ itb ka sa th t) hEV]; omega, fun k => ?_, fun z => ?_, fun q hq => ?_, fun q hq => ?_⟩
      · by_cases hkk : k = ka i
        · rw [hkk, hat.2.1, thF_y]
        · rw [hat.2.2 k hkk, thF_n hkk]; exact i3 k
      · rw [cnt_1 (Pr := fun t => sa t ≠ 0 ∨ itb ka sa th t) hEV] at z; omega
      · have hq2 : q ≠ mN d2 := by omega
        obtain ⟨f1, f2, f3, f4⟩ := i5 q hq
        exact ⟨by rw [a2, pk_un hq2]; exact f1, by rw [a3, pk_un hq2]; exact f2, by rw [a5, pk_un hq2]; exact f3, by rw [a4, pk_uLn hq2]; exact f4⟩
      · have hq2 : q ≠ mN d2 := by omega
        have old : mX d2 q = mX md q ∨ (mX md q = -1 ∧ ∃ t, mN md ≤ t ∧ t < mN d1 ∧ mX d2 q = nI t) := by
          rcases i6 q hq with z | ⟨z, t, t1, t2, t3⟩
          · exact Or.inl z
          · exact Or.inr ⟨z, t, t1, by omega, t3⟩
        rcases a6 with ⟨-, a6⟩ | ⟨j, hj, a6⟩
        · rw [a6, pk_un hq2]; exact old
        · by_cases hqj : q = j
          · subst hqj
            refine Or.inr ⟨?_, mN d2, by omega, by omega, by rw [a6, pk_un hq2]; exact pk_us⟩
            rw [pre_all hp i1] at hj
            rcases hnx q hq with ⟨z, -⟩ | ⟨t, t1, t2, t3, t4, -⟩
            · exact z
            · have := hj.2.2 t t1 (by omega)
              rw [(i5 t t2).1, t4, ← (i5 q hq).1] at this
              exact absurd hj.2.1 this
          · rw [a6, pk_un hq2, pk_un hqj]; exact old
    · have hno : ¬ (sa i ≠ 0 ∨ itb ka sa th i) := fun z => z.elim (fun z => z g1) (fun z => thN_not g2 (hit.mpr z))
      subst g3
      rw [cnt_0 (Pr := fun t => sa t ≠ 0 ∨ itb ka sa th t) hno]
      refine ⟨i1, i2, fun k => ?_, i4, i5, i6⟩
      by_cases hkk : k = ka i
      · rw [hkk, thF_y]
        exact ⟨fun z => absurd z (thN_not g2), fun z => absurd g1 z⟩
      · rw [thF_n hkk]; exact i3 k
theorem add_ex (a key b : Int32) (v : Int64) (md : ME) : ∃ d1, addR a key b v md d1 := by
  obtain ⟨mm, hp⟩ := pre_ex (mR md) a (mN md)
  rcases lsj_ex (mK md) key mm with h | ⟨j, h⟩
  · exact ⟨(mN md + 1, upd (mK md) (mN md) key, upd (mR md) (mN md) a, upd (mX md) (mN md) (-1), vp_updL (mV md) (mN md) v, upd (mS md) (mN md) b), rfl, rfl, rfl, rfl, rfl, mm, hp, Or.inl ⟨h, rfl⟩⟩
  · exact ⟨(mN md + 1, upd (mK md) (mN md) key, upd (mR md) (mN md) a, upd (upd (mX md) j (nI (mN md))) (mN md) (-1), vp_updL (mV md) (mN md) v, upd (mS md) (mN md) b), rfl, rfl, rfl, rfl, rfl, mm, hp, Or.inr ⟨j, h, rfl⟩⟩
theorem apM_ex (a : Int32) (pk pb : Nat → Int32) (pv : Nat → Int64) (fr : Nat) (md : ME) : ∀ i, ∃ d1, apM a pk pb pv fr md i d1 := by
  intro i
  induction i with
  | zero => exact ⟨md, rfl⟩
  | succ i ih =>
    obtain ⟨d2, h2⟩ := ih
    rcases Classical.em (pb (fr + i) ≠ 0 ∨ thY d2 (pk (fr + i)) a) with h | h
    · obtain ⟨d1, h1⟩ := add_ex a (pk (fr + i)) (pb (fr + i)) (pv (fr + i)) d2
      exact ⟨d1, d2, h2, Or.inl ⟨h, h1⟩⟩
    · refine ⟨d2, d2, h2, Or.inr ⟨?_, thN_of (fun z => h (Or.inr z)), rfl⟩⟩
      rcases Classical.em (pb (fr + i) = 0) with z | z
      · exact z
      · exact absurd (Or.inl z) h
/-- log and reference do the steps together -/
theorem lockD {r1 : Nat} {pk pb : Nat → Int32} {pv : Nat → Int64} {fr zz : Nat} {d : LD} {md : ME} {ka sa : Nat → Int32} {va : Nat → Int64} (hC : CJ r1 d) (hM : MI d md) (hr : r1 ≤ 300) (hn : eN d + zz ≤ 2000) (hk : ∀ t, t < zz → pk (fr + t) = ka t) (hb : ∀ t, t < zz → pb (fr + t) = sa t) (hv : ∀ t, t < zz → pv (fr + t) = va t) (h01 : ∀ t, t < zz → sa t = nI 0 ∨ sa t = nI 1) :
    ∀ (i : Nat) (d1 : LD) (m1 : ME), i ≤ zz → aps r1 ka sa va d i d1 → apM (nI r1) pk pb pv fr md i m1 → CJ r1 d1 ∧ MI d1 m1 ∧ eN d1 ≤ eN d + i := by
  intro i
  induction i with
  | zero =>
    intro d1 m1 _ h g
    have h : d1 = d := h
    have g : m1 = md := g
    subst h; subst g
    exact ⟨hC, hM, Nat.le_refl _⟩
  | succ i ih =>
    intro d1 m1 hi h g
    obtain ⟨d2, h2, h3⟩ := h
    obtain ⟨m2, g2, g3⟩ := g
    obtain ⟨i1, i2, i3⟩ := ih d2 m2 (by omega) h2 g2
    rw [hk i (by omega), hb i (by omega), hv i (by omega)] at g3
    rcases h3 with ⟨hs, h3⟩ | ⟨hs, h3⟩
    · have e1 : sa i = nI 1 := (h01 i (by omega)).resolve_left (fun z => hs (z.trans nI_0))
      rcases g3 with ⟨-, g3⟩ | ⟨g3, -⟩
      · rw [e1] at g3
        obtain ⟨s1, s2⟩ := set_step i1 i2 hr (by omega) h3 g3
        exact ⟨s1, s2, by have := h3.1; omega⟩
      · exact absurd g3 hs
    · have hti := thr_iff i1 i2 (key := ka i) (i300 hr)
      rcases g3 with ⟨g4, g3⟩ | ⟨-, g4, g3⟩
      · have ht : thr d2 (ka i) (nI r1) := hti.mpr (g4.resolve_left (fun z => z hs))
        rw [hs, ← nI_0] at g3
        obtain ⟨s1, s2, s3⟩ := rem_step i1 i2 hr (by omega) ht h3 g3
        exact ⟨s1, s2, by omega⟩
      · subst g3
        rcases h3 with ⟨h3, -⟩ | ⟨-, -, -, -, -, -, -, -, j, f1, f2, -⟩
        · subst h3
          exact ⟨i1, i2, by omega⟩
        · exact absurd (hti.mp ⟨j, f1, f2⟩) (thN_not g4)
/-- who is there before a deal, at the new revision too -/
theorem th_up {r : Nat} {d : LD} {md : ME} (hC : CJ r d) (hM : MI d md) (hr : r ≤ 300) (k : Int32) : thr d k (nI r) ↔ thY md k (nI (r + 1)) := by
  rw [thr_iff hC hM (i300 hr)]
  have h0 : ∀ e, e < mN md → mR md e ≤ nI r := fun e he => by rw [hM.1] at he; rw [hM.2.2.1 e he]; exact hC.2.1 e he
  have h1 : ∀ e, e < mN md → mR md e ≤ nI (r + 1) := fun e he => Int32.le_trans (h0 e he) ((nI_leI (by omega) (by omega)).mpr (by omega))
  rw [thY_all h0, thY_all h1]
/-- the events told ahead are those that the steps make -/
theorem apOk_of {r : Nat} {pk pb : Nat → Int32} {pv : Nat → Int64} {fr zz : Nat} {d : LD} {md : ME} {ka sa : Nat → Int32} {va : Nat → Int64} (hC : CJ r d) (hM : MI d md) (hr : r ≤ 300) (hrn : r ≤ eN d) (hz : zz ≤ 20) (hk : ∀ t, t < zz → pk (fr + t) = ka t) (hb : ∀ t, t < zz → pb (fr + t) = sa t) (hv : ∀ t, t < zz → pv (fr + t) = va t) (h01 : ∀ t, t < zz → sa t = nI 0 ∨ sa t = nI 1) (he : evs r d ka sa zz + eN d ≤ 300) (h0 : evs r d ka sa zz ≠ 0) : apOk r d ka sa va zz := by
  have hle : ∀ e, e < mN md → mR md e ≤ nI (r + 1) := fun e he => by rw [hM.1] at he; rw [hM.2.2.1 e he]; exact (CJ_up hC (by omega)).2.1 e he
  have hnx : ∀ e, e < mN md → nxR (mK md) (mX md) (mN md) e := by rw [hM.1]; exact hM.2.2.2.2.2.1
  have hev := evM (a := nI (r + 1)) (pv := pv) (md := md) (ka := ka) (sa := sa) (th := fun x => thr d x (nI r)) hle (th_up hC hM hr) hk hb hnx
  have hlk := lockD (va := va) (CJ_up hC (by omega)) hM (by omega) (by omega) hk hb hv h01
  have key : ∀ i d1, i ≤ zz → aps (r + 1) ka sa va d i d1 → ∃ m1, CJ (r + 1) d1 ∧ MI d1 m1 ∧ eN d1 = eN d + cnt (fun t => sa t ≠ 0 ∨ itb ka sa (fun x => thr d x (nI r)) t) i ∧ (∀ k, thY m1 k (nI (r + 1)) ↔ thF ka sa (fun x => thr d x (nI r)) i k) := by
    intro i d1 hi ha
    obtain ⟨m1, hm⟩ := apM_ex (nI (r + 1)) pk pb pv fr md i
    obtain ⟨l1, l2, -⟩ := hlk i d1 m1 hi ha hm
    obtain ⟨-, e2, e3, -⟩ := hev i m1 hi hm
    exact ⟨m1, l1, l2, by rw [← l2.1, e2, hM.1], e3⟩
  have hev9 : cnt (fun t => sa t ≠ 0 ∨ itb ka sa (fun x => thr d x (nI r)) t) zz + eN d ≤ 300 := he
  refine ⟨fun i d1 hi ha => ?_, fun i d1 hi ha hs => ?_⟩
  · obtain ⟨m1, l1, -, l3, -⟩ := key i d1 hi ha
    have := cnt_mono (Pr := fun t => sa t ≠ 0 ∨ itb ka sa (fun x => thr d x (nI r)) t) hi
    obtain ⟨bn, hbn, -⟩ := l1.2.2.2.2
    exact ⟨by omega, bn, hbn⟩
  · obtain ⟨m1, l1, l2, l3, l4⟩ := key i d1 (by omega) ha
    have hEV : sa i ≠ 0 ∨ itb ka sa (fun x => thr d x (nI r)) i := hs.elim Or.inl (fun z => Or.inr ((l4 (ka i)).mp ((thr_iff l1 l2 (i300 (by omega))).mp z)))
    have := cnt_lt (Pr := fun t => sa t ≠ 0 ∨ itb ka sa (fun x => thr d x (nI r)) t) hi hEV
    omega
/-- the reference takes back what it did: its events are the old ones -/
theorem back_MI {d : LD} {md m1 m9 : ME} (hM : MI d md) (hn : eN d ≤ 2000) (hn1 : mN m1 ≤ 4000) (h1 : mN m9 = mN md) (h2 : mK m9 = mK m1) (h3 : mR m9 = mR m1) (h4 : mV m9 = mV m1) (h5 : mS m9 = mS m1) (hb : rbk (mN md) (mX m1) (mX m9))
    (hold : ∀ q, q < mN md → mK m1 q = mK md q ∧ mR m1 q = mR md q ∧ mS m1 q = mS md q ∧ mV m1 q = mV md q) (hx : ∀ q, q < mN md → mX m1 q = mX md q ∨ (mX md q = -1 ∧ ∃ t, mN md ≤ t ∧ t < mN m1 ∧ mX m1 q = nI t)) : MI d m9 := by
  obtain ⟨m1', m2, m3, m4, m5, m6, m7⟩ := hM
  rw [m1'] at h1 hb hold hx
  have kE : ∀ q, q < eN d → mK m9 q = mK md q := fun q hq => by rw [h2]; exact (hold q hq).1
  have rE : ∀ q, q < eN d → mR m9 q = mR md q := fun q hq => by rw [h3]; exact (hold q hq).2.1
  have sE : ∀ q, q < eN d → mS m9 q = mS md q := fun q hq => by rw [h5]; exact (hold q hq).2.2.1
  have vE : ∀ q, q < eN d → mV m9 q = mV md q := fun q hq => by rw [h4]; exact (hold q hq).2.2.2
  have xE : ∀ q, q < eN d → mX m9 q = mX md q := by
    intro q hq
    rcases hx q hq with z | ⟨z, t, t1, t2, t3⟩
    · rcases hb q hq with ⟨b1, b2⟩ | ⟨b1, b2⟩
      · rw [z] at b1
        rcases m6 q hq with ⟨y, -⟩ | ⟨j, -, y2, y3, -⟩
        · rw [b2, y]
        · rw [y3] at b1
          exact absurd ((nI_leI (by omega) (by omega)).mp b1) (by omega)
      · rw [b2, z]
    · rcases hb q hq with ⟨b1, b2⟩ | ⟨b1, b2⟩
      · rw [b2, z]
      · rw [t3] at b1
        exact absurd ((nI_leI (by omega) (by omega)).mpr t1) b1
  refine ⟨h1, fun e he => by rw [kE e he]; exact m2 e he, fun e he => by rw [rE e he]; exact m3 e he, fun e he => by rw [sE e he]; exact m4 e he, fun e he hs => by rw [vE e he]; exact m5 e he hs, fun e he => ?_, fun e he hs => ?_⟩
  · rcases m6 e he with ⟨y1, y2⟩ | ⟨j, y1, y2, y3, y4, y5⟩
    · exact Or.inl ⟨by rw [xE e he]; exact y1, fun q q1 q2 => by rw [kE q q2, kE e he]; exact y2 q q1 q2⟩
    · exact Or.inr ⟨j, y1, y2, by rw [xE e he]; exact y3, by rw [kE j y2, kE e he]; exact y4, fun q q1 q2 => by rw [kE q (by omega), kE e he]; exact y5 q q1 q2⟩
  · rw [tf_c9 (m2 := md) (fun q hq => kE q (by omega)) (fun q hq => rE q (by omega)) (fun q hq => sE q (by omega)) (fun q hq => vE q (by omega))]
    exact m7 e he hs
