/-! Worlds, what a contract's start and end are, calls in one row. -/
abbrev rT (cI cJ cZ : ClassId) : List (ClassId × FieldType) := [(cI, .int), (cJ, .long), (cZ, .boolean)]
/-- a start that reads only -/
def ro_Pc (D : va_G) (cI cJ cZ : ClassId) (av : List Value) (ws : va_W) : Array Value → State → Prop := va_Pc av (fun U => va_P D vwCl ws U.heap ∧ va_K D vwCl (rT cI cJ cZ) U)
theorem ro_blind {D : va_G} {cI cJ cZ : ClassId} {av : List Value} {ws : va_W} : FrameBlind (ro_Pc D cI cJ cZ av ws) := fun a U g mk q => by
  obtain ⟨q0, qP, qK⟩ := q
  exact ⟨q0, qP, va_K.moved (u := U) (U := U.calling g mk a) (Vm.Alike.refl U.vm) qK⟩
/-- a start that writes: its cells lie apart, the heap's size is sz -/
def rw_Pc (D : va_G) (cI cJ cZ : ClassId) (sz : Nat) (av : List Value) (ws : va_W) : Array Value → State → Prop := va_Pc av (fun U => U.heap.size = sz ∧ va_P D vwCl ws U.heap ∧ va_K D vwCl (rT cI cJ cZ) U ∧ va_D (fun _ => True) ws)
theorem rw_blind {D : va_G} {cI cJ cZ : ClassId} {sz : Nat} {av : List Value} {ws : va_W} : FrameBlind (rw_Pc D cI cJ cZ sz av ws) := fun a U g mk q => by
  obtain ⟨q0, q1, qP, qK, qD⟩ := q
  exact ⟨q0, q1, qP, va_K.moved (u := U) (U := U.calling g mk a) (Vm.Alike.refl U.vm) qK, qD⟩
/-- the world behind a writer -/
def rw_B {S : Type} (D : va_G) (cI cJ cZ : ClassId) (sz : Nat) (ws : va_W) (w1 : S → va_W) : S → State → Prop := fun u t => va_P D vwCl (w1 u) t.heap ∧ va_K D vwCl (rT cI cJ cZ) t ∧ va_D (va_A ws sz) (w1 u)
def rw_Qv {S : Type} (D : va_G) (cI cJ cZ : ClassId) (sz : Nat) (ws : va_W) (w1 : S → va_W) (post : S → Prop) : Array Value → State → Outcome → State → Prop := va_Qv post (rw_B D cI cJ cZ sz ws w1) (va_A ws sz)
def rw_Qi {S : Type} (D : va_G) (cI cJ cZ : ClassId) (sz : Nat) (ws : va_W) (w1 : S → va_W) (post : Int32 → S → Prop) : Array Value → State → Outcome → State → Prop := va_Qi post (rw_B D cI cJ cZ sz ws w1) (va_A ws sz)
def rw_Ql {S : Type} (D : va_G) (cI cJ cZ : ClassId) (sz : Nat) (ws : va_W) (w1 : S → va_W) (post : Int64 → S → Prop) : Array Value → State → Outcome → State → Prop := va_Ql post (rw_B D cI cJ cZ sz ws w1) (va_A ws sz)
section RwCalls
variable {p : Program} {l : Launch} {e : Env} {R : Room} {s : State} {m : MethodId} {args : Array Value} {below : List Frame} {meth : Method} {c : Code} {H : Heap} {locs : List Loc} {cells slots : Nat} {Q : State → Prop}
variable {y : MethodName} {bytes cc : ByteArray} {maxL nL mc ms n index : Nat} {ret : Option FieldType} {ws0 : List Cond} {rm : Room} {Ts : List Cond} {own C : String} {b : Addr} {As rest : List Value} {pc : Nat} {ls : Array Slot}
variable {D : va_G} {cI cJ cZ : ClassId} {ws wc wr : va_W} {A0 : Nat → Prop} {H0 : Heap} {S : Type}
theorem ro_callVi {post : Int32 → Prop} (F : CallFix p m c cc nL s args Ts own) (hM : Met l y ws0 rm (ro_Pc D cI cJ cZ (.ref b :: As) wc) (vp_Si post) 0 0 (fun _ => False)) (cw : CallW R s args own C index y bytes maxL ret ws0 rm 0 0 n)
    (hrec : ∃ cellB : Cell, H[b]? = some cellB ∧ cellB.vm.isStatics = false ∧ s.vm.findClass C = some cellB.cls) (hPc : va_P D vwCl wc H) (hK : va_K D vwCl (rT cI cJ cZ) s) (hn : As.length = n) (hsize : ls.size = nL) (hW : (rest.map fun v => v.category).sum ≤ 8) (hcs : cells ≤ R.cells ∧ slots ≤ R.slots) {st0 : List Value} (hst : st0 = As.reverse ++ .ref b :: rest) (hdg : decode cc pc = .ok (.invokevirtual index, 3))
    (kk : ∀ r : Int32, post r → W p l e R s m args below meth c H locs cells slots Q (F0 m (pc + 3) ls (.int r :: rest))) : W p l e R s m args below meth c H locs cells slots Q (F0 m pc ls st0) :=
  vp_callSi (va_runV (As := As) (rest := rest) F hM cw ⟨ro_blind, hrec, fun U hU hW => ⟨rfl, by rw [hU]; exact hPc, va_K.moved hW.alike hK⟩⟩ rfl hn hsize hst (lv_room hW) hdg hcs).run kk
theorem ro_callVl {post : Int64 → Prop} (F : CallFix p m c cc nL s args Ts own) (hM : Met l y ws0 rm (ro_Pc D cI cJ cZ (.ref b :: As) wc) (vp_Sl post) 0 0 (fun _ => False)) (cw : CallW R s args own C index y bytes maxL ret ws0 rm 0 0 n)
    (hrec : ∃ cellB : Cell, H[b]? = some cellB ∧ cellB.vm.isStatics = false ∧ s.vm.findClass C = some cellB.cls) (hPc : va_P D vwCl wc H) (hK : va_K D vwCl (rT cI cJ cZ) s) (hn : As.length = n) (hsize : ls.size = nL) (hW : (rest.map fun v => v.category).sum ≤ 8) (hcs : cells ≤ R.cells ∧ slots ≤ R.slots) {st0 : List Value} (hst : st0 = As.reverse ++ .ref b :: rest) (hdg : decode cc pc = .ok (.invokevirtual index, 3))
    (kk : ∀ r : Int64, post r → W p l e R s m args below meth c H locs cells slots Q (F0 m (pc + 3) ls (.long r :: rest))) : W p l e R s m args below meth c H locs cells slots Q (F0 m pc ls st0) :=
  vp_callSl (va_runV (As := As) (rest := rest) F hM cw ⟨ro_blind, hrec, fun U hU hW => ⟨rfl, by rw [hU]; exact hPc, va_K.moved hW.alike hK⟩⟩ rfl hn hsize hst (lv_room hW) hdg hcs).run kk
/-- what a writer's call needs of the caller's world, and what the world is behind it -/
theorem rw_behind {w1 : va_W} {H1 : Heap} {t : State} (hP : va_P D vwCl ws H) (hD : va_D A0 ws) (hS : va_S A0 H0 H locs) (hA : ∀ q, H0.size ≤ q → A0 q) (isC isR : List Nat) (hC : isC.map (fun i => ws[i]?) = wc.map some) (hR : isR.map (fun i => ws[i]?) = wr.map some) (hn : va_nd isR = true) (hdis : ∀ i ∈ isR, i ∉ isC)
    (hk : ∀ q : Nat, q < H.size → ¬ va_A wc H.size q → H1[q]? = H[q]?) (ht : t.heap = H1) (hB : va_P D vwCl w1 t.heap ∧ va_K D vwCl (rT cI cJ cZ) t ∧ va_D (va_A wc H.size) w1) : va_P D vwCl (wr ++ w1) H1 ∧ va_D A0 (wr ++ w1) := by
  obtain ⟨hP1, -, hD1⟩ := hB
  rw [ht] at hP1
  exact va_join (wr := wr) (w1 := w1) hP hD isC isR hC hR hn hdis hk (va_free hD hS hA isC hC) hP1 hD1
theorem rw_callVv {post : S → Prop} {w1 : S → va_W} (F : CallFix p m c cc nL s args Ts own) (hM : Met l y ws0 rm (rw_Pc D cI cJ cZ H.size (.ref b :: As) wc) (rw_Qv D cI cJ cZ H.size wc w1 post) mc ms (va_A wc H.size)) (cw : CallW R s args own C index y bytes maxL ret ws0 rm mc ms n)
    (hrec : ∃ cellB : Cell, H[b]? = some cellB ∧ cellB.vm.isStatics = false ∧ s.vm.findClass C = some cellB.cls) (hK : va_K D vwCl (rT cI cJ cZ) s) (hP : va_P D vwCl ws H) (hD : va_D A0 ws) (hS : va_S A0 H0 H locs) (hA : ∀ q, H0.size ≤ q → A0 q)
    (isC isR : List Nat) (hC : isC.map (fun i => ws[i]?) = wc.map some) (hC' : isC.filterMap (fun i => ws[i]?) = wc) (hR : isR.map (fun i => ws[i]?) = wr.map some) (hnC : va_nd isC = true) (hn' : va_nd isR = true) (hdis : ∀ i ∈ isR, i ∉ isC) (hn : As.length = n) (hsize : ls.size = nL) (hW : (rest.map fun v => v.category).sum ≤ 8) (hcs : cells + mc ≤ R.cells ∧ slots + ms ≤ R.slots) {st0 : List Value} (hst : st0 = As.reverse ++ .ref b :: rest) (hdg : decode cc pc = .ok (.invokevirtual index, 3))
    (kk : ∀ (u : S) (H : Heap) (locs : List Loc), post u → va_P D vwCl (wr ++ w1 u) H → va_D A0 (wr ++ w1 u) → va_S A0 H0 H locs → W p l e R s m args below meth c H locs (cells + mc) (slots + ms) Q (F0 m (pc + 3) ls rest)) : W p l e R s m args below meth c H locs cells slots Q (F0 m pc ls st0) := by
  have hFc := va_free (wc := wc) hD hS hA isC hC
  refine va_callv (va_runV (As := As) (rest := rest) F hM cw ⟨rw_blind, hrec, fun U hU hW => ⟨rfl, by rw [hU], by rw [hU]; exact hP.sub isC hC', va_K.moved hW.alike hK, (hD.sub isC hnC hC).weaken (fun _ _ _ _ => trivial)⟩⟩ rfl hn hsize hst (lv_room hW) hdg hcs) hS (fun q _ h => hFc q h) hFc (fun u t H1 locs1 ht hvm hw hB hz1 hk1 hS1 => ?_)
  obtain ⟨q1, q2⟩ := rw_behind (cI := cI) (cJ := cJ) (cZ := cZ) hP hD hS hA isC isR hC hR hn' hdis hk1 ht hB
  exact kk u H1 locs1 hw q1 q2 hS1
theorem rw_callVi {post : Int32 → S → Prop} {w1 : S → va_W} (F : CallFix p m c cc nL s args Ts own) (hM : Met l y ws0 rm (rw_Pc D cI cJ cZ H.size (.ref b :: As) wc) (rw_Qi D cI cJ cZ H.size wc w1 post) mc ms (va_A wc H.size)) (cw : CallW R s args own C index y bytes maxL ret ws0 rm mc ms n)
    (hrec : ∃ cellB : Cell, H[b]? = some cellB ∧ cellB.vm.isStatics = false ∧ s.vm.findClass C = some cellB.cls) (hK : va_K D vwCl (rT cI cJ cZ) s) (hP : va_P D vwCl ws H) (hD : va_D A0 ws) (hS : va_S A0 H0 H locs) (hA : ∀ q, H0.size ≤ q → A0 q)
    (isC isR : List Nat) (hC : isC.map (fun i => ws[i]?) = wc.map some) (hC' : isC.filterMap (fun i => ws[i]?) = wc) (hR : isR.map (fun i => ws[i]?) = wr.map some) (hnC : va_nd isC = true) (hn' : va_nd isR = true) (hdis : ∀ i ∈ isR, i ∉ isC) (hn : As.length = n) (hsize : ls.size = nL) (hW : (rest.map fun v => v.category).sum ≤ 8) (hcs : cells + mc ≤ R.cells ∧ slots + ms ≤ R.slots) {st0 : List Value} (hst : st0 = As.reverse ++ .ref b :: rest) (hdg : decode cc pc = .ok (.invokevirtual index, 3))
    (kk : ∀ (r : Int32) (u : S) (H : Heap) (locs : List Loc), post r u → va_P D vwCl (wr ++ w1 u) H → va_D A0 (wr ++ w1 u) → va_S A0 H0 H locs → W p l e R s m args below meth c H locs (cells + mc) (slots + ms) Q (F0 m (pc + 3) ls (.int r :: rest))) : W p l e R s m args below meth c H locs cells slots Q (F0 m pc ls st0) := by
  have hFc := va_free (wc := wc) hD hS hA isC hC
  refine va_calli (va_runV (As := As) (rest := rest) F hM cw ⟨rw_blind, hrec, fun U hU hW => ⟨rfl, by rw [hU], by rw [hU]; exact hP.sub isC hC', va_K.moved hW.alike hK, (hD.sub isC hnC hC).weaken (fun _ _ _ _ => trivial)⟩⟩ rfl hn hsize hst (lv_room hW) hdg hcs) hS (fun q _ h => hFc q h) hFc (fun r u t H1 locs1 ht hvm hw hB hz1 hk1 hS1 => ?_)
  obtain ⟨q1, q2⟩ := rw_behind (cI := cI) (cJ := cJ) (cZ := cZ) hP hD hS hA isC isR hC hR hn' hdis hk1 ht hB
  exact kk r u H1 locs1 hw q1 q2 hS1
theorem rw_callVl {post : Int64 → S → Prop} {w1 : S → va_W} (F : CallFix p m c cc nL s args Ts own) (hM : Met l y ws0 rm (rw_Pc D cI cJ cZ H.size (.ref b :: As) wc) (rw_Ql D cI cJ cZ H.size wc w1 post) mc ms (va_A wc H.size)) (cw : CallW R s args own C index y bytes maxL ret ws0 rm mc ms n)
    (hrec : ∃ cellB : Cell, H[b]? = some cellB ∧ cellB.vm.isStatics = false ∧ s.vm.findClass C = some cellB.cls) (hK : va_K D vwCl (rT cI cJ cZ) s) (hP : va_P D vwCl ws H) (hD : va_D A0 ws) (hS : va_S A0 H0 H locs) (hA : ∀ q, H0.size ≤ q → A0 q)
    (isC isR : List Nat) (hC : isC.map (fun i => ws[i]?) = wc.map some) (hC' : isC.filterMap (fun i => ws[i]?) = wc) (hR : isR.map (fun i => ws[i]?) = wr.map some) (hnC : va_nd isC = true) (hn' : va_nd isR = true) (hdis : ∀ i ∈ isR, i ∉ isC) (hn : As.length = n) (hsize : ls.size = nL) (hW : (rest.map fun v => v.category).sum ≤ 8) (hcs : cells + mc ≤ R.cells ∧ slots + ms ≤ R.slots) {st0 : List Value} (hst : st0 = As.reverse ++ .ref b :: rest) (hdg : decode cc pc = .ok (.invokevirtual index, 3))
    (kk : ∀ (r : Int64) (u : S) (H : Heap) (locs : List Loc), post r u → va_P D vwCl (wr ++ w1 u) H → va_D A0 (wr ++ w1 u) → va_S A0 H0 H locs → W p l e R s m args below meth c H locs (cells + mc) (slots + ms) Q (F0 m (pc + 3) ls (.long r :: rest))) : W p l e R s m args below meth c H locs cells slots Q (F0 m pc ls st0) := by
  have hFc := va_free (wc := wc) hD hS hA isC hC
  refine va_calll (va_runV (As := As) (rest := rest) F hM cw ⟨rw_blind, hrec, fun U hU hW => ⟨rfl, by rw [hU], by rw [hU]; exact hP.sub isC hC', va_K.moved hW.alike hK, (hD.sub isC hnC hC).weaken (fun _ _ _ _ => trivial)⟩⟩ rfl hn hsize hst (lv_room hW) hdg hcs) hS (fun q _ h => hFc q h) hFc (fun r u t H1 locs1 ht hvm hw hB hz1 hk1 hS1 => ?_)
  obtain ⟨q1, q2⟩ := rw_behind (cI := cI) (cJ := cJ) (cZ := cZ) hP hD hS hA isC isR hC hR hn' hdis hk1 ht hB
  exact kk r u H1 locs1 hw q1 q2 hS1
theorem rw_callIv {post : S → Prop} {w1 : S → va_W} (F : CallFix p m c cc nL s args Ts own) (hM : Met l y ws0 rm (rw_Pc D cI cJ cZ H.size (.ref b :: As) wc) (rw_Qv D cI cJ cZ H.size wc w1 post) mc ms (va_A wc H.size)) (cw : CallB R s args own index y bytes maxL none ws0 rm mc ms n ∧ y.name = "<init>" ∧ (Cond.instanceMethod y).before args s = true)
    (hK : va_K D vwCl (rT cI cJ cZ) s) (hP : va_P D vwCl ws H) (hD : va_D A0 ws) (hS : va_S A0 H0 H locs) (hA : ∀ q, H0.size ≤ q → A0 q)
    (isC isR : List Nat) (hC : isC.map (fun i => ws[i]?) = wc.map some) (hC' : isC.filterMap (fun i => ws[i]?) = wc) (hR : isR.map (fun i => ws[i]?) = wr.map some) (hnC : va_nd isC = true) (hn' : va_nd isR = true) (hdis : ∀ i ∈ isR, i ∉ isC) (hn : As.length = n) (hsize : ls.size = nL) (hW : (rest.map fun v => v.category).sum ≤ 8) (hcs : cells + mc ≤ R.cells ∧ slots + ms ≤ R.slots) {st0 : List Value} (hst : st0 = As.reverse ++ .ref b :: rest) (hdg : decode cc pc = .ok (.invokespecial index, 3))
    (kk : ∀ (u : S) (H : Heap) (locs : List Loc), post u → va_P D vwCl (wr ++ w1 u) H → va_D A0 (wr ++ w1 u) → va_S A0 H0 H locs → W p l e R s m args below meth c H locs (cells + mc) (slots + ms) Q (F0 m (pc + 3) ls rest)) : W p l e R s m args below meth c H locs cells slots Q (F0 m pc ls st0) := by
  have hFc := va_free (wc := wc) hD hS hA isC hC
  refine va_callv (va_runI (As := As) (rest := rest) F hM cw ⟨rw_blind, fun U hU hW => ⟨rfl, by rw [hU], by rw [hU]; exact hP.sub isC hC', va_K.moved hW.alike hK, (hD.sub isC hnC hC).weaken (fun _ _ _ _ => trivial)⟩⟩ rfl hn hsize hst (lv_room hW) hdg hcs) hS (fun q _ h => hFc q h) hFc (fun u t H1 locs1 ht hvm hw hB hz1 hk1 hS1 => ?_)
  obtain ⟨q1, q2⟩ := rw_behind (cI := cI) (cJ := cJ) (cZ := cZ) hP hD hS hA isC isR hC hR hn' hdis hk1 ht hB
  exact kk u H1 locs1 hw q1 q2 hS1
end RwCalls
/-- what a throw needs of the start: Throwable's two statics lie outside of A, its classes' words that aren't good ones -/
def rx_s (A : Nat → Prop) (U : State) : Prop := vx_Zq Bundle.tN "UNASSIGNED_STACK" Bundle.steD A U U.heap ∧ vx_Zq Bundle.tN "SUPPRESSED_SENTINEL" Bundle.listD A U U.heap ∧ (va_Nw (.castable "java/lang/IndexOutOfBoundsException" "java/lang/IndexOutOfBoundsException") U ∧ va_Nw (.castable "java/lang/IllegalArgumentException" "java/lang/IllegalArgumentException") U ∧ va_Nw (.castable "java/lang/IllegalStateException" "java/lang/IllegalStateException") U ∧ va_Nw (.castable "java/util/NoSuchElementException" "java/util/NoSuchElementException") U) ∧
  va_Nc "java/lang/IllegalStateException" "java/lang/IllegalArgumentException" U ∧ va_Nc "java/util/NoSuchElementException" "java/lang/IllegalArgumentException" U ∧ va_Nc "java/util/NoSuchElementException" "java/lang/IllegalStateException" U ∧ va_Nw (.declares ⟨"java/lang/RuntimeException", "<init>", "()V"⟩) U ∧ va_Nw (.declares ⟨"java/lang/Exception", "<init>", "()V"⟩) U ∧ va_Nw (.declares ⟨"java/lang/Throwable", "<init>", "()V"⟩) U
theorem rx_s.to {A B : Nat → Prop} {s U : State} {H : Heap} {locs : List Loc} (h : rx_s A s) (hS : va_S A s.heap H locs) (hU : U.heap = H) (hW : s.WarmedH U.vm) (hBA : ∀ q, B q → A q) : rx_s B U := by
  obtain ⟨h1, h2, ⟨h3, h4, h5, h6⟩, h7, h8, h9, ha, hb, hc⟩ := h
  subst hU
  exact ⟨(vx_Zq.moved hW.alike (h1.kept hS.2.1)).narrow hBA, (vx_Zq.moved hW.alike (h2.kept hS.2.1)).narrow hBA, ⟨va_Nw.warmC hW h3, va_Nw.warmC hW h4, va_Nw.warmC hW h5, va_Nw.warmC hW h6⟩, va_Nc.moved hW.alike h7, va_Nc.moved hW.alike h8, va_Nc.moved hW.alike h9, va_Nw.warmD hW ha, va_Nw.warmD hW hb, va_Nw.warmD hW hc⟩
theorem rx_s.call {A : Nat → Prop} {U : State} {g : JFrame} {mk : MethodId} {a : Array Value} (h : rx_s A U) : rx_s A (U.calling g mk a) := by
  have hS : va_S A U.heap U.heap [] := va_S.rf
  exact rx_s.to (U := U.calling g mk a) h hS rfl (State.WarmedH.refl U) (fun _ q => q)
def rx_Pc (D : va_G) (cI cJ cZ : ClassId) (sz : Nat) (av : List Value) (ws : va_W) : Array Value → State → Prop := va_Pc av (fun U => U.heap.size = sz ∧ va_P D vwCl ws U.heap ∧ va_K D vwCl (rT cI cJ cZ) U ∧ va_D (fun _ => True) ws ∧ rx_s (va_A ws sz) U)
theorem rx_blind {D : va_G} {cI cJ cZ : ClassId} {sz : Nat} {av : List Value} {ws : va_W} : FrameBlind (rx_Pc D cI cJ cZ sz av ws) := fun a U g mk q => by
  obtain ⟨q0, q1, qP, qK, qD, qX⟩ := q
  exact ⟨q0, q1, qP, va_K.moved (u := U) (U := U.calling g mk a) (Vm.Alike.refl U.vm) qK, qD, qX.call⟩
/-- thrown: of a class E with PE E, the world as it was -/
def rx_X (D : va_G) (cI cJ cZ : ClassId) (sz : Nat) (ws : va_W) (PE : String → Prop) : String → State → State → Prop := vx_X (fun _ : Unit => True) (fun E _ t => PE E ∧ va_P D vwCl ws t.heap ∧ va_K D vwCl (rT cI cJ cZ) t ∧ va_D (va_A ws sz) ws) (va_A ws sz)
section RxRows
variable {p : Program} {l : Launch} {e : Env} {R : Room} {s : State} {m : MethodId} {args : Array Value} {below : List Frame} {meth : Method} {c : Code} {H : Heap} {locs : List Loc} {cells slots : Nat} {Q : State → Prop}
variable {y : MethodName} {bytes cc : ByteArray} {maxL nL mc ms n index : Nat} {ret : Option FieldType} {ws0 : List Cond} {rm : Room} {Ts : List Cond} {own C : String} {b : Addr} {As rest : List Value} {pc : Nat} {ls : Array Slot}
variable {D : va_G} {cI cJ cZ : ClassId} {ws wc wr : va_W} {A0 : Nat → Prop} {H0 : Heap} {S : Type}
theorem rx_callVv {post : S → Prop} {w1 : S → va_W} {PE : String → Prop} (F : CallFix p m c cc nL s args Ts own) (hM : vx_Met l y ws0 rm (rx_Pc D cI cJ cZ H.size (.ref b :: As) wc) (rw_Qv D cI cJ cZ H.size wc w1 post) (rx_X D cI cJ cZ H.size wc PE) mc ms (va_A wc H.size)) (cw : CallW R s args own C index y bytes maxL ret ws0 rm mc ms n)
    (hrec : ∃ cellB : Cell, H[b]? = some cellB ∧ cellB.vm.isStatics = false ∧ s.vm.findClass C = some cellB.cls) (hK : va_K D vwCl (rT cI cJ cZ) s) (hxs : rx_s A0 s) (hP : va_P D vwCl ws H) (hD : va_D A0 ws) (hS : va_S A0 s.heap H locs) (hA : ∀ q, s.heap.size ≤ q → A0 q)
    (isC isR : List Nat) (hC : isC.map (fun i => ws[i]?) = wc.map some) (hC' : isC.filterMap (fun i => ws[i]?) = wc) (hR : isR.map (fun i => ws[i]?) = wr.map some) (hnC : va_nd isC = true) (hn' : va_nd isR = true) (hdis : ∀ i ∈ isR, i ∉ isC) (hn : As.length = n) (hsize : ls.size = nL) (hW : (rest.map fun v => v.category).sum ≤ 8) (hcs : cells + mc ≤ R.cells ∧ slots + ms ≤ R.slots) {st0 : List Value} (hst : st0 = As.reverse ++ .ref b :: rest) (hdg : decode cc pc = .ok (.invokevirtual index, 3))
    (kx : ∀ (E : String) (ce : Cell) (q9 : Addr) (H : Heap) (locs : List Loc), PE E → va_P D vwCl (wr ++ wc) H → va_D A0 (wr ++ wc) → va_S A0 s.heap H locs → H[q9]? = some ce → ce.vm = .none → s.vm.findClass E = some ce.cls → vx_W p l e R s m args below meth c H locs (cells + mc) (slots + ms) Q (F0 m pc ls rest) q9)
    (kk : ∀ (u : S) (H : Heap) (locs : List Loc), post u → va_P D vwCl (wr ++ w1 u) H → va_D A0 (wr ++ w1 u) → va_S A0 s.heap H locs → W p l e R s m args below meth c H locs (cells + mc) (slots + ms) Q (F0 m (pc + 3) ls rest)) : W p l e R s m args below meth c H locs cells slots Q (F0 m pc ls st0) := by
  have hFc := va_free (wc := wc) hD hS hA isC hC
  refine vx_callv (vx_runV (As := As) (rest := rest) F hM cw ⟨rx_blind, hrec, fun U hU hW => ⟨rfl, by rw [hU], by rw [hU]; exact hP.sub isC hC', va_K.moved hW.alike hK, (hD.sub isC hnC hC).weaken (fun _ _ _ _ => trivial), hxs.to hS hU hW hFc⟩⟩ rfl hn hsize hst (lv_room hW) hdg hcs) hS (fun q _ h => hFc q h) hFc (fun q _ h => hFc q h) (fun E ce q9 u t H1 locs1 ht hvm hw hB hz1 hk1 hS1 hce hcv hcl => ?_) (fun u t H1 locs1 ht hvm hw hB hz1 hk1 hS1 => ?_)
  · obtain ⟨q1, q2⟩ := rw_behind (cI := cI) (cJ := cJ) (cZ := cZ) hP hD hS hA isC isR hC hR hn' hdis hk1 ht hB.2
    exact kx E ce q9 H1 locs1 hB.1 q1 q2 hS1 hce hcv hcl
  · obtain ⟨q1, q2⟩ := rw_behind (cI := cI) (cJ := cJ) (cZ := cZ) hP hD hS hA isC isR hC hR hn' hdis hk1 ht hB
    exact kk u H1 locs1 hw q1 q2 hS1
theorem rx_callVi {post : Int32 → S → Prop} {w1 : S → va_W} {PE : String → Prop} (F : CallFix p m c cc nL s args Ts own) (hM : vx_Met l y ws0 rm (rx_Pc D cI cJ cZ H.size (.ref b :: As) wc) (rw_Qi D cI cJ cZ H.size wc w1 post) (rx_X D cI cJ cZ H.size wc PE) mc ms (va_A wc H.size)) (cw : CallW R s args own C index y bytes maxL ret ws0 rm mc ms n)
    (hrec : ∃ cellB : Cell, H[b]? = some cellB ∧ cellB.vm.isStatics = false ∧ s.vm.findClass C = some cellB.cls) (hK : va_K D vwCl (rT cI cJ cZ) s) (hxs : rx_s A0 s) (hP : va_P D vwCl ws H) (hD : va_D A0 ws) (hS : va_S A0 s.heap H locs) (hA : ∀ q, s.heap.size ≤ q → A0 q)
    (isC isR : List Nat) (hC : isC.map (fun i => ws[i]?) = wc.map some) (hC' : isC.filterMap (fun i => ws[i]?) = wc) (hR : isR.map (fun i => ws[i]?) = wr.map some) (hnC : va_nd isC = true) (hn' : va_nd isR = true) (hdis : ∀ i ∈ isR, i ∉ isC) (hn : As.length = n) (hsize : ls.size = nL) (hW : (rest.map fun v => v.category).sum ≤ 8) (hcs : cells + mc ≤ R.cells ∧ slots + ms ≤ R.slots) {st0 : List Value} (hst : st0 = As.reverse ++ .ref b :: rest) (hdg : decode cc pc = .ok (.invokevirtual index, 3))
    (kx : ∀ (E : String) (ce : Cell) (q9 : Addr) (H : Heap) (locs : List Loc), PE E → va_P D vwCl (wr ++ wc) H → va_D A0 (wr ++ wc) → va_S A0 s.heap H locs → H[q9]? = some ce → ce.vm = .none → s.vm.findClass E = some ce.cls → vx_W p l e R s m args below meth c H locs (cells + mc) (slots + ms) Q (F0 m pc ls rest) q9)
    (kk : ∀ (r : Int32) (u : S) (H : Heap) (locs : List Loc), post r u → va_P D vwCl (wr ++ w1 u) H → va_D A0 (wr ++ w1 u) → va_S A0 s.heap H locs → W p l e R s m args below meth c H locs (cells + mc) (slots + ms) Q (F0 m (pc + 3) ls (.int r :: rest))) : W p l e R s m args below meth c H locs cells slots Q (F0 m pc ls st0) := by
  have hFc := va_free (wc := wc) hD hS hA isC hC
  refine vx_calli (vx_runV (As := As) (rest := rest) F hM cw ⟨rx_blind, hrec, fun U hU hW => ⟨rfl, by rw [hU], by rw [hU]; exact hP.sub isC hC', va_K.moved hW.alike hK, (hD.sub isC hnC hC).weaken (fun _ _ _ _ => trivial), hxs.to hS hU hW hFc⟩⟩ rfl hn hsize hst (lv_room hW) hdg hcs) hS (fun q _ h => hFc q h) hFc (fun q _ h => hFc q h) (fun E ce q9 u t H1 locs1 ht hvm hw hB hz1 hk1 hS1 hce hcv hcl => ?_) (fun r u t H1 locs1 ht hvm hw hB hz1 hk1 hS1 => ?_)
  · obtain ⟨q1, q2⟩ := rw_behind (cI := cI) (cJ := cJ) (cZ := cZ) hP hD hS hA isC isR hC hR hn' hdis hk1 ht hB.2
    exact kx E ce q9 H1 locs1 hB.1 q1 q2 hS1 hce hcv hcl
  · obtain ⟨q1, q2⟩ := rw_behind (cI := cI) (cJ := cJ) (cZ := cZ) hP hD hS hA isC isR hC hR hn' hdis hk1 ht hB
    exact kk r u H1 locs1 hw q1 q2 hS1
theorem rx_callVl {post : Int64 → S → Prop} {w1 : S → va_W} {PE : String → Prop} (F : CallFix p m c cc nL s args Ts own) (hM : vx_Met l y ws0 rm (rx_Pc D cI cJ cZ H.size (.ref b :: As) wc) (rw_Ql D cI cJ cZ H.size wc w1 post) (rx_X D cI cJ cZ H.size wc PE) mc ms (va_A wc H.size)) (cw : CallW R s args own C index y bytes maxL ret ws0 rm mc ms n)
    (hrec : ∃ cellB : Cell, H[b]? = some cellB ∧ cellB.vm.isStatics = false ∧ s.vm.findClass C = some cellB.cls) (hK : va_K D vwCl (rT cI cJ cZ) s) (hxs : rx_s A0 s) (hP : va_P D vwCl ws H) (hD : va_D A0 ws) (hS : va_S A0 s.heap H locs) (hA : ∀ q, s.heap.size ≤ q → A0 q)
    (isC isR : List Nat) (hC : isC.map (fun i => ws[i]?) = wc.map some) (hC' : isC.filterMap (fun i => ws[i]?) = wc) (hR : isR.map (fun i => ws[i]?) = wr.map some) (hnC : va_nd isC = true) (hn' : va_nd isR = true) (hdis : ∀ i ∈ isR, i ∉ isC) (hn : As.length = n) (hsize : ls.size = nL) (hW : (rest.map fun v => v.category).sum ≤ 8) (hcs : cells + mc ≤ R.cells ∧ slots + ms ≤ R.slots) {st0 : List Value} (hst : st0 = As.reverse ++ .ref b :: rest) (hdg : decode cc pc = .ok (.invokevirtual index, 3))
    (kx : ∀ (E : String) (ce : Cell) (q9 : Addr) (H : Heap) (locs : List Loc), PE E → va_P D vwCl (wr ++ wc) H → va_D A0 (wr ++ wc) → va_S A0 s.heap H locs → H[q9]? = some ce → ce.vm = .none → s.vm.findClass E = some ce.cls → vx_W p l e R s m args below meth c H locs (cells + mc) (slots + ms) Q (F0 m pc ls rest) q9)
    (kk : ∀ (r : Int64) (u : S) (H : Heap) (locs : List Loc), post r u → va_P D vwCl (wr ++ w1 u) H → va_D A0 (wr ++ w1 u) → va_S A0 s.heap H locs → W p l e R s m args below meth c H locs (cells + mc) (slots + ms) Q (F0 m (pc + 3) ls (.long r :: rest))) : W p l e R s m args below meth c H locs cells slots Q (F0 m pc ls st0) := by
  have hFc := va_free (wc := wc) hD hS hA isC hC
  refine vx_calll (vx_runV (As := As) (rest := rest) F hM cw ⟨rx_blind, hrec, fun U hU hW => ⟨rfl, by rw [hU], by rw [hU]; exact hP.sub isC hC', va_K.moved hW.alike hK, (hD.sub isC hnC hC).weaken (fun _ _ _ _ => trivial), hxs.to hS hU hW hFc⟩⟩ rfl hn hsize hst (lv_room hW) hdg hcs) hS (fun q _ h => hFc q h) hFc (fun q _ h => hFc q h) (fun E ce q9 u t H1 locs1 ht hvm hw hB hz1 hk1 hS1 hce hcv hcl => ?_) (fun r u t H1 locs1 ht hvm hw hB hz1 hk1 hS1 => ?_)
  · obtain ⟨q1, q2⟩ := rw_behind (cI := cI) (cJ := cJ) (cZ := cZ) hP hD hS hA isC isR hC hR hn' hdis hk1 ht hB.2
    exact kx E ce q9 H1 locs1 hB.1 q1 q2 hS1 hce hcv hcl
  · obtain ⟨q1, q2⟩ := rw_behind (cI := cI) (cJ := cJ) (cZ := cZ) hP hD hS hA isC isR hC hR hn' hdis hk1 ht hB
    exact kk r u H1 locs1 hw q1 q2 hS1
end RxRows
theorem xa_IO : ∀ w ∈ (vx_at0 RX3 135 "java/lang/IndexOutOfBoundsException" ["java/lang/RuntimeException", "java/lang/Exception"]).filter goodWord, w ∈ wB := by
  intro w hw
  refine List.mem_filter.mpr ?_
  revert w
  decide +kernel
theorem xb_IO : ∀ w ∈ (vx_at0 RX3 135 "java/lang/IndexOutOfBoundsException" ["java/lang/RuntimeException", "java/lang/Exception"]).filter (fun w => !goodWord w), w ∈ [Cond.castable "java/lang/IndexOutOfBoundsException" "java/lang/IndexOutOfBoundsException", .declares ⟨"java/lang/RuntimeException", "<init>", "()V"⟩, .declares ⟨"java/lang/Exception", "<init>", "()V"⟩, .declares ⟨"java/lang/Throwable", "<init>", "()V"⟩] := by decide +kernel
theorem xc_IO : ∀ w ∈ Cond.classLink RX3 133 "java/lang/IndexOutOfBoundsException" :: Cond.initialized "java/lang/IndexOutOfBoundsException" :: vx_at0 RX3 135 "java/lang/IndexOutOfBoundsException" ["java/lang/RuntimeException", "java/lang/Exception"], vx_ot w = true := by decide +kernel
theorem rx_throwIO {p : Program} {l : Launch} {e : Env} {R : Room} {s : State} {m : MethodId} {args : Array Value} {below : List Frame} {meth : Method} {c : Code} {H : Heap} {locs : List Loc} {cells slots mc ms : Nat} {cc : ByteArray} {pc : Nat} {ls : Array Slot} {rest : List Value} {c0 : Cond} {D : va_G} {cI cJ cZ : ClassId} {ws : va_W} {A : Nat → Prop} {Qc : Array Value → State → Outcome → State → Prop} {PE : String → Prop}
    (hexec : p.tables.exec = Jvm.exec) (hb : c.code = cc) (hl : l.stackTraces = false) (hown : s.vm.findClass RX3 = some m.cls) (hts : ∀ w ∈ c0 :: wB, w.before args s = true) (hxs : rx_s A s) (hAe : va_A ws s.heap.size = A) (hS : va_S A s.heap H locs) (hP : va_P D vwCl ws H) (hD : va_D A ws) (hK : va_K D vwCl (rT cI cJ cZ) s) (hsize : ls.size = c.maxLocals)
    (d0 : decode cc pc = .ok (.new 133, 3)) (d3 : decode cc (pc + 3) = .ok (.dup, 1)) (d4 : decode cc (pc + 4) = .ok (.invokespecial 135, 3)) (d7 : decode cc (pc + 7) = .ok (.athrow, 1)) (htab : ∀ x ∈ c.exceptionTable.toList, False)
    (hRf : 5 < R.frames) (hRl : (rest.map fun v => v.category).sum + 81 ≤ R.locals) (hRc : cells + 1 ≤ R.cells) (hRs : slots + 6 ≤ R.slots) (hlocks : meth.locks = false) (hPE : PE "java/lang/IndexOutOfBoundsException") (hc : cells + 1 ≤ mc) (hs : slots + 6 ≤ ms) :
    W p l e R s m args below meth c H locs cells slots (vx_MQ below Qc (rx_X D cI cJ cZ s.heap.size ws PE) args s mc ms (va_A ws s.heap.size)) (F0 m pc ls rest) := by
  subst hAe
  have h := hxs
  refine vx_throw0 (own := RX3) (cls := "java/lang/IndexOutOfBoundsException") (names := ["java/lang/RuntimeException", "java/lang/Exception"]) (ik := 133) (ic := 135) (A := va_A ws s.heap.size) hexec hb hl hown (by decide) (by decide) (hts _ (List.mem_cons_of_mem _ mw_149)) (hts _ (List.mem_cons_of_mem _ mw_9)) (vx_hat (fun w hw => hts _ (List.mem_cons_of_mem _ (xa_IO w hw))) xb_IO (vx_c (va_Nw.use rfl h.2.2.1.1) (vx_c (va_Nw.use rfl h.2.2.2.2.2.2.1) (vx_c (va_Nw.use rfl h.2.2.2.2.2.2.2.1) (vx_c (va_Nw.use rfl h.2.2.2.2.2.2.2.2) vx_n))))) xc_IO hxs.1 hxs.2.1 hS hsize d0 d3 d4 d7 (fun x hx => (htab x hx).elim) hRf hRl hRc hRs hlocks (fun t hal hz hk => ?_) hS.2.2 hc hs
  refine ⟨(), trivial, ⟨hPE, hP.kept (fun k q hq => hk q.1 ((hP k q hq).lt)), va_K.moved hal hK, hD⟩, Nat.le_trans hS.1 hz, fun q h1 h2 => ?_⟩
  rw [hk q (Nat.lt_of_lt_of_le h1 hS.1)]
  exact hS.2.1 q h1 h2
theorem xa_IA : ∀ w ∈ (vx_at0 RX3 60 "java/lang/IllegalArgumentException" ["java/lang/RuntimeException", "java/lang/Exception"]).filter goodWord, w ∈ wB := by
  intro w hw
  refine List.mem_filter.mpr ?_
  revert w
  decide +kernel
theorem xb_IA : ∀ w ∈ (vx_at0 RX3 60 "java/lang/IllegalArgumentException" ["java/lang/RuntimeException", "java/lang/Exception"]).filter (fun w => !goodWord w), w ∈ [Cond.castable "java/lang/IllegalArgumentException" "java/lang/IllegalArgumentException", .declares ⟨"java/lang/RuntimeException", "<init>", "()V"⟩, .declares ⟨"java/lang/Exception", "<init>", "()V"⟩, .declares ⟨"java/lang/Throwable", "<init>", "()V"⟩] := by decide +kernel
theorem xc_IA : ∀ w ∈ Cond.classLink RX3 58 "java/lang/IllegalArgumentException" :: Cond.initialized "java/lang/IllegalArgumentException" :: vx_at0 RX3 60 "java/lang/IllegalArgumentException" ["java/lang/RuntimeException", "java/lang/Exception"], vx_ot w = true := by decide +kernel
theorem rx_throwIA {p : Program} {l : Launch} {e : Env} {R : Room} {s : State} {m : MethodId} {args : Array Value} {below : List Frame} {meth : Method} {c : Code} {H : Heap} {locs : List Loc} {cells slots mc ms : Nat} {cc : ByteArray} {pc : Nat} {ls : Array Slot} {rest : List Value} {c0 : Cond} {D : va_G} {cI cJ cZ : ClassId} {ws : va_W} {A : Nat → Prop} {Qc : Array Value → State → Outcome → State → Prop} {PE : String → Prop}
    (hexec : p.tables.exec = Jvm.exec) (hb : c.code = cc) (hl : l.stackTraces = false) (hown : s.vm.findClass RX3 = some m.cls) (hts : ∀ w ∈ c0 :: wB, w.before args s = true) (hxs : rx_s A s) (hAe : va_A ws s.heap.size = A) (hS : va_S A s.heap H locs) (hP : va_P D vwCl ws H) (hD : va_D A ws) (hK : va_K D vwCl (rT cI cJ cZ) s) (hsize : ls.size = c.maxLocals)
    (d0 : decode cc pc = .ok (.new 58, 3)) (d3 : decode cc (pc + 3) = .ok (.dup, 1)) (d4 : decode cc (pc + 4) = .ok (.invokespecial 60, 3)) (d7 : decode cc (pc + 7) = .ok (.athrow, 1)) (htab : ∀ x ∈ c.exceptionTable.toList, False)
    (hRf : 5 < R.frames) (hRl : (rest.map fun v => v.category).sum + 81 ≤ R.locals) (hRc : cells + 1 ≤ R.cells) (hRs : slots + 6 ≤ R.slots) (hlocks : meth.locks = false) (hPE : PE "java/lang/IllegalArgumentException") (hc : cells + 1 ≤ mc) (hs : slots + 6 ≤ ms) :
    W p l e R s m args below meth c H locs cells slots (vx_MQ below Qc (rx_X D cI cJ cZ s.heap.size ws PE) args s mc ms (va_A ws s.heap.size)) (F0 m pc ls rest) := by
  subst hAe
  have h := hxs
  refine vx_throw0 (own := RX3) (cls := "java/lang/IllegalArgumentException") (names := ["java/lang/RuntimeException", "java/lang/Exception"]) (ik := 58) (ic := 60) (A := va_A ws s.heap.size) hexec hb hl hown (by decide) (by decide) (hts _ (List.mem_cons_of_mem _ mw_257)) (hts _ (List.mem_cons_of_mem _ mw_10)) (vx_hat (fun w hw => hts _ (List.mem_cons_of_mem _ (xa_IA w hw))) xb_IA (vx_c (va_Nw.use rfl h.2.2.1.2.1) (vx_c (va_Nw.use rfl h.2.2.2.2.2.2.1) (vx_c (va_Nw.use rfl h.2.2.2.2.2.2.2.1) (vx_c (va_Nw.use rfl h.2.2.2.2.2.2.2.2) vx_n))))) xc_IA hxs.1 hxs.2.1 hS hsize d0 d3 d4 d7 (fun x hx => (htab x hx).elim) hRf hRl hRc hRs hlocks (fun t hal hz hk => ?_) hS.2.2 hc hs
  refine ⟨(), trivial, ⟨hPE, hP.kept (fun k q hq => hk q.1 ((hP k q hq).lt)), va_K.moved hal hK, hD⟩, Nat.le_trans hS.1 hz, fun q h1 h2 => ?_⟩
  rw [hk q (Nat.lt_of_lt_of_le h1 hS.1)]
  exact hS.2.1 q h1 h2
theorem xa_IS : ∀ w ∈ (vx_at0 RX3 66 "java/lang/IllegalStateException" ["java/lang/RuntimeException", "java/lang/Exception"]).filter goodWord, w ∈ wB := by
  intro w hw
  refine List.mem_filter.mpr ?_
  revert w
  decide +kernel
theorem xb_IS : ∀ w ∈ (vx_at0 RX3 66 "java/lang/IllegalStateException" ["java/lang/RuntimeException", "java/lang/Exception"]).filter (fun w => !goodWord w), w ∈ [Cond.castable "java/lang/IllegalStateException" "java/lang/IllegalStateException", .declares ⟨"java/lang/RuntimeException", "<init>", "()V"⟩, .declares ⟨"java/lang/Exception", "<init>", "()V"⟩, .declares ⟨"java/lang/Throwable", "<init>", "()V"⟩] := by decide +kernel
theorem xc_IS : ∀ w ∈ Cond.classLink RX3 64 "java/lang/IllegalStateException" :: Cond.initialized "java/lang/IllegalStateException" :: vx_at0 RX3 66 "java/lang/IllegalStateException" ["java/lang/RuntimeException", "java/lang/Exception"], vx_ot w = true := by decide +kernel
theorem rx_throwIS {p : Program} {l : Launch} {e : Env} {R : Room} {s : State} {m : MethodId} {args : Array Value} {below : List Frame} {meth : Method} {c : Code} {H : Heap} {locs : List Loc} {cells slots mc ms : Nat} {cc : ByteArray} {pc : Nat} {ls : Array Slot} {rest : List Value} {c0 : Cond} {D : va_G} {cI cJ cZ : ClassId} {ws : va_W} {A : Nat → Prop} {Qc : Array Value → State → Outcome → State → Prop} {PE : String → Prop}
    (hexec : p.tables.exec = Jvm.exec) (hb : c.code = cc) (hl : l.stackTraces = false) (hown : s.vm.findClass RX3 = some m.cls) (hts : ∀ w ∈ c0 :: wB, w.before args s = true) (hxs : rx_s A s) (hAe : va_A ws s.heap.size = A) (hS : va_S A s.heap H locs) (hP : va_P D vwCl ws H) (hD : va_D A ws) (hK : va_K D vwCl (rT cI cJ cZ) s) (hsize : ls.size = c.maxLocals)
    (d0 : decode cc pc = .ok (.new 64, 3)) (d3 : decode cc (pc + 3) = .ok (.dup, 1)) (d4 : decode cc (pc + 4) = .ok (.invokespecial 66, 3)) (d7 : decode cc (pc + 7) = .ok (.athrow, 1)) (htab : ∀ x ∈ c.exceptionTable.toList, False)
    (hRf : 5 < R.frames) (hRl : (rest.map fun v => v.category).sum + 81 ≤ R.locals) (hRc : cells + 1 ≤ R.cells) (hRs : slots + 6 ≤ R.slots) (hlocks : meth.locks = false) (hPE : PE "java/lang/IllegalStateException") (hc : cells + 1 ≤ mc) (hs : slots + 6 ≤ ms) :
    W p l e R s m args below meth c H locs cells slots (vx_MQ below Qc (rx_X D cI cJ cZ s.heap.size ws PE) args s mc ms (va_A ws s.heap.size)) (F0 m pc ls rest) := by
  subst hAe
  have h := hxs
  refine vx_throw0 (own := RX3) (cls := "java/lang/IllegalStateException") (names := ["java/lang/RuntimeException", "java/lang/Exception"]) (ik := 64) (ic := 66) (A := va_A ws s.heap.size) hexec hb hl hown (by decide) (by decide) (hts _ (List.mem_cons_of_mem _ mw_272)) (hts _ (List.mem_cons_of_mem _ mw_11)) (vx_hat (fun w hw => hts _ (List.mem_cons_of_mem _ (xa_IS w hw))) xb_IS (vx_c (va_Nw.use rfl h.2.2.1.2.2.1) (vx_c (va_Nw.use rfl h.2.2.2.2.2.2.1) (vx_c (va_Nw.use rfl h.2.2.2.2.2.2.2.1) (vx_c (va_Nw.use rfl h.2.2.2.2.2.2.2.2) vx_n))))) xc_IS hxs.1 hxs.2.1 hS hsize d0 d3 d4 d7 (fun x hx => (htab x hx).elim) hRf hRl hRc hRs hlocks (fun t hal hz hk => ?_) hS.2.2 hc hs
  refine ⟨(), trivial, ⟨hPE, hP.kept (fun k q hq => hk q.1 ((hP k q hq).lt)), va_K.moved hal hK, hD⟩, Nat.le_trans hS.1 hz, fun q h1 h2 => ?_⟩
  rw [hk q (Nat.lt_of_lt_of_le h1 hS.1)]
  exact hS.2.1 q h1 h2
theorem xa_NS : ∀ w ∈ (vx_at0 RX3 101 "java/util/NoSuchElementException" ["java/lang/RuntimeException", "java/lang/Exception"]).filter goodWord, w ∈ wB := by
  intro w hw
  refine List.mem_filter.mpr ?_
  revert w
  decide +kernel
theorem xb_NS : ∀ w ∈ (vx_at0 RX3 101 "java/util/NoSuchElementException" ["java/lang/RuntimeException", "java/lang/Exception"]).filter (fun w => !goodWord w), w ∈ [Cond.castable "java/util/NoSuchElementException" "java/util/NoSuchElementException", .declares ⟨"java/lang/RuntimeException", "<init>", "()V"⟩, .declares ⟨"java/lang/Exception", "<init>", "()V"⟩, .declares ⟨"java/lang/Throwable", "<init>", "()V"⟩] := by decide +kernel
theorem xc_NS : ∀ w ∈ Cond.classLink RX3 99 "java/util/NoSuchElementException" :: Cond.initialized "java/util/NoSuchElementException" :: vx_at0 RX3 101 "java/util/NoSuchElementException" ["java/lang/RuntimeException", "java/lang/Exception"], vx_ot w = true := by decide +kernel
theorem rx_throwNS {p : Program} {l : Launch} {e : Env} {R : Room} {s : State} {m : MethodId} {args : Array Value} {below : List Frame} {meth : Method} {c : Code} {H : Heap} {locs : List Loc} {cells slots mc ms : Nat} {cc : ByteArray} {pc : Nat} {ls : Array Slot} {rest : List Value} {c0 : Cond} {D : va_G} {cI cJ cZ : ClassId} {ws : va_W} {A : Nat → Prop} {Qc : Array Value → State → Outcome → State → Prop} {PE : String → Prop}
    (hexec : p.tables.exec = Jvm.exec) (hb : c.code = cc) (hl : l.stackTraces = false) (hown : s.vm.findClass RX3 = some m.cls) (hts : ∀ w ∈ c0 :: wB, w.before args s = true) (hxs : rx_s A s) (hAe : va_A ws s.heap.size = A) (hS : va_S A s.heap H locs) (hP : va_P D vwCl ws H) (hD : va_D A ws) (hK : va_K D vwCl (rT cI cJ cZ) s) (hsize : ls.size = c.maxLocals)
    (d0 : decode cc pc = .ok (.new 99, 3)) (d3 : decode cc (pc + 3) = .ok (.dup, 1)) (d4 : decode cc (pc + 4) = .ok (.invokespecial 101, 3)) (d7 : decode cc (pc + 7) = .ok (.athrow, 1)) (htab : ∀ x ∈ c.exceptionTable.toList, False)
    (hRf : 5 < R.frames) (hRl : (rest.map fun v => v.category).sum + 81 ≤ R.locals) (hRc : cells + 1 ≤ R.cells) (hRs : slots + 6 ≤ R.slots) (hlocks : meth.locks = false) (hPE : PE "java/util/NoSuchElementException") (hc : cells + 1 ≤ mc) (hs : slots + 6 ≤ ms) :
    W p l e R s m args below meth c H locs cells slots (vx_MQ below Qc (rx_X D cI cJ cZ s.heap.size ws PE) args s mc ms (va_A ws s.heap.size)) (F0 m pc ls rest) := by
  subst hAe
  have h := hxs
  refine vx_throw0 (own := RX3) (cls := "java/util/NoSuchElementException") (names := ["java/lang/RuntimeException", "java/lang/Exception"]) (ik := 99) (ic := 101) (A := va_A ws s.heap.size) hexec hb hl hown (by decide) (by decide) (hts _ (List.mem_cons_of_mem _ mw_357)) (hts _ (List.mem_cons_of_mem _ mw_12)) (vx_hat (fun w hw => hts _ (List.mem_cons_of_mem _ (xa_NS w hw))) xb_NS (vx_c (va_Nw.use rfl h.2.2.1.2.2.2) (vx_c (va_Nw.use rfl h.2.2.2.2.2.2.1) (vx_c (va_Nw.use rfl h.2.2.2.2.2.2.2.1) (vx_c (va_Nw.use rfl h.2.2.2.2.2.2.2.2) vx_n))))) xc_NS hxs.1 hxs.2.1 hS hsize d0 d3 d4 d7 (fun x hx => (htab x hx).elim) hRf hRl hRc hRs hlocks (fun t hal hz hk => ?_) hS.2.2 hc hs
  refine ⟨(), trivial, ⟨hPE, hP.kept (fun k q hq => hk q.1 ((hP k q hq).lt)), va_K.moved hal hK, hD⟩, Nat.le_trans hS.1 hz, fun q h1 h2 => ?_⟩
  rw [hk q (Nat.lt_of_lt_of_le h1 hS.1)]
  exact hS.2.1 q h1 h2
/-! numbers -/
theorem zn_le0 {n : Nat} (h : n < 2 ^ 31) : nI n ≤ 0 ↔ n = 0 := by
  rw [← nI_0, nI_leI h (by omega)]; omega
theorem zn_0lt {n : Nat} (h : n < 2 ^ 31) : 0 < nI n ↔ 0 < n := by
  rw [← nI_0, nI_ltI (by omega) h]
theorem zn_eq0 {n : Nat} (h : n < 2 ^ 31) : nI n = 0 ↔ n = 0 := by
  rw [← nI_0, nI_eq h (by omega)]
theorem zn_nm1 {n : Nat} (h : n < 2 ^ 31) : nI n ≠ -1 := fun q => by
  have h1 := nI_pos h
  rw [q] at h1
  exact h1 (by decide)
section RwEnds
variable {p : Program} {l : Launch} {e : Env} {R : Room} {s : State} {m : MethodId} {args : Array Value} {below : List Frame} {meth : Method} {c : Code} {H : Heap} {locs : List Loc} {cells slots mc ms : Nat} {cc : ByteArray} {pc : Nat} {ls : Array Slot}
variable {D : va_G} {cI cJ cZ : ClassId} {ws : va_W} {A : Nat → Prop} {S : Type} {w1 : S → va_W} {u : S}
theorem rw_retv {post : S → Prop} (hAe : A = va_A ws s.heap.size) (hP : va_P D vwCl (w1 u) H) (hD : va_D A (w1 u)) (hS : va_S A s.heap H locs) (hK : va_K D vwCl (rT cI cJ cZ) s) (hp : post u) (hc : cells ≤ mc) (hs : slots ≤ ms) (hx : p.tables.exec = Jvm.exec) (hb : c.code = cc) (hr : meth.sig.returnType = none) (hlocks : meth.locks = false) (d : decode cc pc = .ok (.return_, 1)) :
    W p l e R s m args below meth c H locs cells slots (MQ below (rw_Qv D cI cJ cZ s.heap.size ws w1 post) args s mc ms (va_A ws s.heap.size)) (F0 m pc ls []) := by
  subst hAe
  exact W.widen hc hs (W.vret hx hb hr (fun t ht hW => ⟨⟨u, rfl, hp, by rw [ht]; exact hP, va_K.moved hW.alike hK, hD⟩, hS.F ht⟩) hS.2.2 d)
theorem rw_reti {v : Int32} {post : Int32 → S → Prop} (hAe : A = va_A ws s.heap.size) (hP : va_P D vwCl (w1 u) H) (hD : va_D A (w1 u)) (hS : va_S A s.heap H locs) (hK : va_K D vwCl (rT cI cJ cZ) s) (hp : post v u) (hc : cells ≤ mc) (hs : slots ≤ ms) (hx : p.tables.exec = Jvm.exec) (hb : c.code = cc) (hr : meth.sig.returnType = some .int) (hlocks : meth.locks = false) (d : decode cc pc = .ok (.ireturn, 1)) :
    W p l e R s m args below meth c H locs cells slots (MQ below (rw_Qi D cI cJ cZ s.heap.size ws w1 post) args s mc ms (va_A ws s.heap.size)) (F0 m pc ls [.int v]) := by
  subst hAe
  exact W.widen hc hs (W.iret hx hb hr (fun t ht hW => ⟨⟨v, u, rfl, hp, by rw [ht]; exact hP, va_K.moved hW.alike hK, hD⟩, hS.F ht⟩) hS.2.2 d)
theorem rw_retz {v : Int32} {post : Int32 → S → Prop} (hAe : A = va_A ws s.heap.size) (hP : va_P D vwCl (w1 u) H) (hD : va_D A (w1 u)) (hS : va_S A s.heap H locs) (hK : va_K D vwCl (rT cI cJ cZ) s) (hp : post v u) (hc : cells ≤ mc) (hs : slots ≤ ms) (hx : p.tables.exec = Jvm.exec) (hb : c.code = cc) (hr : meth.sig.returnType = some .boolean) (hlocks : meth.locks = false) (hn : narrow .boolean (.int v) = .int v) (d : decode cc pc = .ok (.ireturn, 1)) :
    W p l e R s m args below meth c H locs cells slots (MQ below (rw_Qi D cI cJ cZ s.heap.size ws w1 post) args s mc ms (va_A ws s.heap.size)) (F0 m pc ls [.int v]) := by
  subst hAe
  exact W.widen hc hs (W.zret hx hb hr hn (fun t ht hW => ⟨⟨v, u, rfl, hp, by rw [ht]; exact hP, va_K.moved hW.alike hK, hD⟩, hS.F ht⟩) hS.2.2 d)
theorem rw_retl {v : Int64} {post : Int64 → S → Prop} (hAe : A = va_A ws s.heap.size) (hP : va_P D vwCl (w1 u) H) (hD : va_D A (w1 u)) (hS : va_S A s.heap H locs) (hK : va_K D vwCl (rT cI cJ cZ) s) (hp : post v u) (hc : cells ≤ mc) (hs : slots ≤ ms) (hx : p.tables.exec = Jvm.exec) (hb : c.code = cc) (hr : meth.sig.returnType = some .long) (hlocks : meth.locks = false) (d : decode cc pc = .ok (.lreturn, 1)) :
    W p l e R s m args below meth c H locs cells slots (MQ below (rw_Ql D cI cJ cZ s.heap.size ws w1 post) args s mc ms (va_A ws s.heap.size)) (F0 m pc ls [.long v]) := by
  subst hAe
  exact W.widen hc hs (W.lret hx hb hr (fun t ht hW => ⟨⟨v, u, rfl, hp, by rw [ht]; exact hP, va_K.moved hW.alike hK, hD⟩, hS.F ht⟩) hS.2.2 d)
theorem rx_out {Qc : Array Value → State → Outcome → State → Prop} {PE : String → Prop} {E : String} {ce : Cell} {q : Addr} {rest : List Value} (htab : ∀ x ∈ c.exceptionTable.toList, False) (hlocks : meth.locks = false) (hAe : A = va_A ws s.heap.size) (hP : va_P D vwCl ws H) (hD : va_D A ws) (hS : va_S A s.heap H locs) (hK : va_K D vwCl (rT cI cJ cZ) s)
    (hce : H[q]? = some ce) (hcv : ce.vm = .none) (hcl : s.vm.findClass E = some ce.cls) (hPE : PE E) (hc : cells ≤ mc) (hs : slots ≤ ms) :
    vx_W p l e R s m args below meth c H locs cells slots (vx_MQ below Qc (rx_X D cI cJ cZ s.heap.size ws PE) args s mc ms (va_A ws s.heap.size)) (F0 m pc ls rest) q := by
  subst hAe
  exact vx_out (fun x hx => (htab x hx).elim) hlocks hce hcv hcl (fun t ht hal => ⟨(), trivial, ⟨hPE, by rw [ht]; exact hP, va_K.moved hal hK, hD⟩, hS.F ht⟩) hS.2.2 hc hs
end RwEnds
