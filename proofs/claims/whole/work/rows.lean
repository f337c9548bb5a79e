section
-- ===== PART A: goes FIRST, ahead of the names: the tables' words, and 'selects' of the private methods out of them =====
/-- a private method of a class that the tables say can be made, by its rows of tables_1 -/
def lw_okq (q : MethodName × Nat) : Prop := (q.1.cls ≠ "java/lang/invoke/MethodHandle" ∧ q.1.cls ≠ "java/lang/invoke/VarHandle") ∧ Cond.instantiable q.1.cls q.2 ∈ tables_1 ∧ Cond.privateMethod q.1 ∈ tables_1 ∧ Cond.instanceMethod q.1 ∈ tables_1
theorem lw_p0 : lw_okq (⟨"RevisionShelf$EventLog", "holds", "(II)Z"⟩, 10) := ⟨⟨by decide +kernel, by decide +kernel⟩, List.mem_of_getElem? (i := 22) (by decide +kernel), List.mem_of_getElem? (i := 134) (by decide +kernel), List.mem_of_getElem? (i := 135) (by decide +kernel)⟩
theorem lw_p1 : lw_okq (⟨"RevisionShelf", "refuseIfFull", "(I)V"⟩, 5) := ⟨⟨by decide +kernel, by decide +kernel⟩, List.mem_of_getElem? (i := 14) (by decide +kernel), List.mem_of_getElem? (i := 146) (by decide +kernel), List.mem_of_getElem? (i := 147) (by decide +kernel)⟩
theorem lw_p2 : lw_okq (⟨"java/lang/Throwable", "fillInStackTrace", "(I)Ljava/lang/Throwable;"⟩, 6) := ⟨⟨by decide +kernel, by decide +kernel⟩, List.mem_of_getElem? (i := 189) (by decide +kernel), List.mem_of_getElem? (i := 187) (by decide +kernel), List.mem_of_getElem? (i := 188) (by decide +kernel)⟩
theorem lw_p3 : lw_okq (⟨"RevisionShelf$EventLog", "append", "(II)I"⟩, 10) := ⟨⟨by decide +kernel, by decide +kernel⟩, List.mem_of_getElem? (i := 22) (by decide +kernel), List.mem_of_getElem? (i := 226) (by decide +kernel), List.mem_of_getElem? (i := 227) (by decide +kernel)⟩
theorem lw_p4 : lw_okq (⟨"RevisionShelf$EventLog", "sortIn", "(I)V"⟩, 10) := ⟨⟨by decide +kernel, by decide +kernel⟩, List.mem_of_getElem? (i := 22) (by decide +kernel), List.mem_of_getElem? (i := 230) (by decide +kernel), List.mem_of_getElem? (i := 231) (by decide +kernel)⟩
theorem lw_p5 : lw_okq (⟨"RevisionShelf$TestList", "holds", "(IJ)Z"⟩, 5) := ⟨⟨by decide +kernel, by decide +kernel⟩, List.mem_of_getElem? (i := 67) (by decide +kernel), List.mem_of_getElem? (i := 318) (by decide +kernel), List.mem_of_getElem? (i := 319) (by decide +kernel)⟩
theorem lw_p6 : lw_okq (⟨"RevisionShelf$StepList", "isThereBefore", "(ILRevisionShelf$EventLog;)Z"⟩, 4) := ⟨⟨by decide +kernel, by decide +kernel⟩, List.mem_of_getElem? (i := 90) (by decide +kernel), List.mem_of_getElem? (i := 326) (by decide +kernel), List.mem_of_getElem? (i := 327) (by decide +kernel)⟩
theorem lw_p7 : lw_okq (⟨"RevisionShelf", "readingRevision", "(I)I"⟩, 5) := ⟨⟨by decide +kernel, by decide +kernel⟩, List.mem_of_getElem? (i := 14) (by decide +kernel), List.mem_of_getElem? (i := 353) (by decide +kernel), List.mem_of_getElem? (i := 354) (by decide +kernel)⟩
theorem lw_p8 : lw_okq (⟨"RevisionShelf$EventLog", "holdsWithin", "(IIII)Z"⟩, 10) := ⟨⟨by decide +kernel, by decide +kernel⟩, List.mem_of_getElem? (i := 22) (by decide +kernel), List.mem_of_getElem? (i := 392) (by decide +kernel), List.mem_of_getElem? (i := 393) (by decide +kernel)⟩
theorem lw_p9 : lw_okq (⟨"RevisionShelfModel", "no", "(I)I"⟩, 20) := ⟨⟨by decide +kernel, by decide +kernel⟩, List.mem_of_getElem? (i := 429) (by decide +kernel), List.mem_of_getElem? (i := 504) (by decide +kernel), List.mem_of_getElem? (i := 505) (by decide +kernel)⟩
theorem lw_p10 : lw_okq (⟨"RevisionShelfModel", "add", "(IZJI)V"⟩, 20) := ⟨⟨by decide +kernel, by decide +kernel⟩, List.mem_of_getElem? (i := 429) (by decide +kernel), List.mem_of_getElem? (i := 508) (by decide +kernel), List.mem_of_getElem? (i := 509) (by decide +kernel)⟩
theorem lw_p11 : lw_okq (⟨"RevisionShelfModel", "last", "(II)I"⟩, 20) := ⟨⟨by decide +kernel, by decide +kernel⟩, List.mem_of_getElem? (i := 429) (by decide +kernel), List.mem_of_getElem? (i := 512) (by decide +kernel), List.mem_of_getElem? (i := 513) (by decide +kernel)⟩
theorem lw_p12 : lw_okq (⟨"RevisionShelfModel", "isThere", "(II)Z"⟩, 20) := ⟨⟨by decide +kernel, by decide +kernel⟩, List.mem_of_getElem? (i := 429) (by decide +kernel), List.mem_of_getElem? (i := 520) (by decide +kernel), List.mem_of_getElem? (i := 521) (by decide +kernel)⟩
theorem lw_p13 : lw_okq (⟨"RevisionShelfModel", "told", "(III)J"⟩, 20) := ⟨⟨by decide +kernel, by decide +kernel⟩, List.mem_of_getElem? (i := 429) (by decide +kernel), List.mem_of_getElem? (i := 536) (by decide +kernel), List.mem_of_getElem? (i := 537) (by decide +kernel)⟩
theorem lw_p14 : lw_okq (⟨"RevisionShelfModel", "reading", "(IZ)I"⟩, 20) := ⟨⟨by decide +kernel, by decide +kernel⟩, List.mem_of_getElem? (i := 429) (by decide +kernel), List.mem_of_getElem? (i := 544) (by decide +kernel), List.mem_of_getElem? (i := 545) (by decide +kernel)⟩
theorem lw_p15 : lw_okq (⟨"RevisionShelfModel", "gather", "(III)I"⟩, 20) := ⟨⟨by decide +kernel, by decide +kernel⟩, List.mem_of_getElem? (i := 429) (by decide +kernel), List.mem_of_getElem? (i := 556) (by decide +kernel), List.mem_of_getElem? (i := 557) (by decide +kernel)⟩
def lw_privs_1 : List (MethodName × Nat) := [(⟨"RevisionShelf$EventLog", "holds", "(II)Z"⟩, 10), (⟨"RevisionShelf", "refuseIfFull", "(I)V"⟩, 5), (⟨"java/lang/Throwable", "fillInStackTrace", "(I)Ljava/lang/Throwable;"⟩, 6), (⟨"RevisionShelf$EventLog", "append", "(II)I"⟩, 10), (⟨"RevisionShelf$EventLog", "sortIn", "(I)V"⟩, 10), (⟨"RevisionShelf$TestList", "holds", "(IJ)Z"⟩, 5), (⟨"RevisionShelf$StepList", "isThereBefore", "(ILRevisionShelf$EventLog;)Z"⟩, 4), (⟨"RevisionShelf", "readingRevision", "(I)I"⟩, 5), (⟨"RevisionShelf$EventLog", "holdsWithin", "(IIII)Z"⟩, 10), (⟨"RevisionShelfModel", "no", "(I)I"⟩, 20), (⟨"RevisionShelfModel", "add", "(IZJI)V"⟩, 20), (⟨"RevisionShelfModel", "last", "(II)I"⟩, 20), (⟨"RevisionShelfModel", "isThere", "(II)Z"⟩, 20), (⟨"RevisionShelfModel", "told", "(III)J"⟩, 20), (⟨"RevisionShelfModel", "reading", "(IZ)I"⟩, 20), (⟨"RevisionShelfModel", "gather", "(III)I"⟩, 20)]
theorem lw_r1 : ∀ q ∈ lw_privs_1, lw_okq q := List.forall_mem_cons.mpr ⟨lw_p0, List.forall_mem_cons.mpr ⟨lw_p1, List.forall_mem_cons.mpr ⟨lw_p2, List.forall_mem_cons.mpr ⟨lw_p3, List.forall_mem_cons.mpr ⟨lw_p4, List.forall_mem_cons.mpr ⟨lw_p5, List.forall_mem_cons.mpr ⟨lw_p6, List.forall_mem_cons.mpr ⟨lw_p7, List.forall_mem_cons.mpr ⟨lw_p8, List.forall_mem_cons.mpr ⟨lw_p9, List.forall_mem_cons.mpr ⟨lw_p10, List.forall_mem_cons.mpr ⟨lw_p11, List.forall_mem_cons.mpr ⟨lw_p12, List.forall_mem_cons.mpr ⟨lw_p13, List.forall_mem_cons.mpr ⟨lw_p14, List.forall_mem_cons.mpr ⟨lw_p15, fun _ h => absurd h List.not_mem_nil⟩⟩⟩⟩⟩⟩⟩⟩⟩⟩⟩⟩⟩⟩⟩⟩
def lw_privs : List (MethodName × Nat) := lw_privs_1
def lw_tbl : List Cond := k2_sels lw_privs ++ tables_1
theorem lw_privs_ok : ∀ q ∈ lw_privs, lw_okq q := lw_r1
-- ===== end of PART A =====
/-! A thrown object caught in the method that called, past rows of its table that name other classes: the tables may be cold. (After the library's laws of the same matter, which the rounds' library leaves out.) -/
section RcCatch
theorem rc_goLink {Q : Handler → Pre} {E : CtlPost} {e : Env} {d : Bool} {acts : List Action} {s : State} {f : JFrame} {a : Addr} {x : ExceptionTableEntry} {t : List ExceptionTableEntry} {c : ClassId} {cell : Cell} (hx : covers x f.pc = true) (h0 : x.catchType ≠ 0)
    (hl : s.vm.ClassLinks e.platform f.method.cls x.catchType c) (hcell : s.heap[a]? = some cell) (hobj : ∀ k, cell.vm ≠ .statics k)
    (hk : ∃ k, s.vm.classes[cell.cls]? = some k) (hc : ∃ k, s.vm.classes[c]? = some k) (hfit : s.vm.assignable cell.cls c = true) :
    wp (findHandler.go f a (x :: t)) Q E e d acts s ↔ Q (.found x.handlerPc) d acts (s.setVm (s.vm.noted f.method.cls x.catchType (.cls c))) := by
  simp only [covers] at hx
  obtain ⟨ha, ht⟩ := (resolveClass_links e.toSetting hl).op (op := VmOp.resolveClass f.method.cls x.catchType) rfl
  have hal : s.vm.Alike (s.vm.noted f.method.cls x.catchType (.cls c)) := (Vm.Alike.refl s.vm).noted _ _ _
  obtain ⟨k1, hk1⟩ := hk
  obtain ⟨k2, hk2⟩ := hc
  obtain ⟨k1', hk1', -⟩ := hal.2.2 _ _ hk1
  obtain ⟨k2', hk2', -⟩ := hal.2.2 _ _ hk2
  have hfit' : (s.vm.noted f.method.cls x.catchType (.cls c)).assignable cell.cls c = true := by rw [hal.assignable]; exact hfit
  simp [findHandler.go, hx, h0, ha, ht, hcell, hobj, hk1', hk2', hfit', VmOp.dirties, VmOp.acts]
theorem rc_goPass {Q : Handler → Pre} {E : CtlPost} {e : Env} {d : Bool} {acts : List Action} {s : State} {f : JFrame} {a : Addr} {x : ExceptionTableEntry} {t : List ExceptionTableEntry} {c : ClassId} {cell : Cell} (hx : covers x f.pc = true) (h0 : x.catchType ≠ 0)
    (hl : s.vm.ClassLinks e.platform f.method.cls x.catchType c) (hcell : s.heap[a]? = some cell) (hobj : ∀ k, cell.vm ≠ .statics k)
    (hk : ∃ k, s.vm.classes[cell.cls]? = some k) (hc : ∃ k, s.vm.classes[c]? = some k) (hno : s.vm.assignable cell.cls c = false) :
    wp (findHandler.go f a (x :: t)) Q E e d acts s ↔ wp (findHandler.go f a t) Q E e d acts (s.setVm (s.vm.noted f.method.cls x.catchType (.cls c))) := by
  simp only [covers] at hx
  obtain ⟨ha, ht⟩ := (resolveClass_links e.toSetting hl).op (op := VmOp.resolveClass f.method.cls x.catchType) rfl
  have hal : s.vm.Alike (s.vm.noted f.method.cls x.catchType (.cls c)) := (Vm.Alike.refl s.vm).noted _ _ _
  obtain ⟨k1, hk1⟩ := hk
  obtain ⟨k2, hk2⟩ := hc
  obtain ⟨k1', hk1', -⟩ := hal.2.2 _ _ hk1
  obtain ⟨k2', hk2', -⟩ := hal.2.2 _ _ hk2
  have hno' : (s.vm.noted f.method.cls x.catchType (.cls c)).assignable cell.cls c = false := by rw [hal.assignable]; exact hno
  simp [findHandler.go, hx, h0, ha, ht, hcell, hobj, hk1', hk2', hno', VmOp.dirties, VmOp.acts]
/-- the rows ahead are passed, the row x takes it: where the search comes to -/
theorem rc_search {e : Env} {s₀ : State} {f : JFrame} {a : Addr} {cell : Cell} (hobj : ∀ k, cell.vm ≠ .statics k) (hk0 : ∃ k, s₀.vm.classes[cell.cls]? = some k)
    (x : ExceptionTableEntry) (rest : List ExceptionTableEntry) (hx : covers x f.pc = true) (h0 : x.catchType ≠ 0) {c : ClassId} (hl : s₀.vm.ClassLinks e.platform f.method.cls x.catchType c) (hfit : s₀.vm.assignable cell.cls c = true) :
    ∀ (pre : List ExceptionTableEntry) (S : State), s₀.WarmedH S.vm → S.heap[a]? = some cell →
      (∀ y ∈ pre, covers y f.pc = false ∨ (y.catchType ≠ 0 ∧ ∃ c, s₀.vm.ClassLinks e.platform f.method.cls y.catchType c ∧ s₀.vm.assignable cell.cls c = false)) →
      ∃ vm', s₀.WarmedH vm' ∧ ∀ (Q : Handler → Pre) (E : CtlPost) (d : Bool) (acts : List Action), wp (findHandler.go f a (pre ++ x :: rest)) Q E e d acts S ↔ Q (.found x.handlerPc) d acts (S.setVm vm') := by
  obtain ⟨k0, hk0⟩ := hk0
  intro pre
  induction pre with
  | nil =>
    intro S hW hcell _
    obtain ⟨k0', hk0', -⟩ := hW.alike.2.2 _ _ hk0
    obtain ⟨dk, _, _, kt, hd, _, _, _, _, hkt, _, hopen⟩ := hl.here
    obtain ⟨kt', hkt', -⟩ := hW.alike.2.2 _ _ hkt
    exact ⟨_, hW.noted hd hopen (State.rightAt_cls hl), fun Q E d acts => by
      rw [List.nil_append]
      exact rc_goLink hx h0 (hW.classLinks hl) hcell hobj ⟨k0', hk0'⟩ ⟨kt', hkt'⟩ (by rw [hW.alike.assignable]; exact hfit)⟩
  | cons y ys ih =>
    intro S hW hcell hpass
    obtain ⟨k0', hk0', -⟩ := hW.alike.2.2 _ _ hk0
    have hrest := fun z (hz : z ∈ ys) => hpass z (List.mem_cons_of_mem _ hz)
    by_cases hcov : covers y f.pc = true
    · rcases hpass y (List.mem_cons_self ..) with h | ⟨hy0, cy, hly, hno⟩
      · rw [h] at hcov; cases hcov
      · obtain ⟨dk, _, _, kt, hd, _, _, _, _, hkt, _, hopen⟩ := hly.here
        obtain ⟨kt', hkt', -⟩ := hW.alike.2.2 _ _ hkt
        obtain ⟨vm', hW', hq⟩ := ih (S.setVm (S.vm.noted f.method.cls y.catchType (.cls cy))) (hW.noted hd hopen (State.rightAt_cls hly)) hcell hrest
        exact ⟨vm', hW', fun Q E d acts => by
          rw [List.cons_append, rc_goPass hcov hy0 (hW.classLinks hly) hcell hobj ⟨k0', hk0'⟩ ⟨kt', hkt'⟩ (by rw [hW.alike.assignable]; exact hno)]
          exact hq Q E d acts⟩
    · obtain ⟨vm', hW', hq⟩ := ih S hW hcell hrest
      exact ⟨vm', hW', fun Q E d acts => by
        rw [List.cons_append, Jvm.W.findHandler_go_skip (by simpa using hcov)]
        exact hq Q E d acts⟩
def rc_To (e : Env) (s : State) (f : JFrame) (a : Addr) (h : Handler) (vm' : Vm) : Prop :=
  ∀ (Q : Handler → Pre) (E : CtlPost) (d : Bool) (acts : List Action), wp (findHandler f a) Q E e d acts s ↔ Q h d acts (s.setVm vm')
theorem rc_step {e : Env} {s : State} {a : Addr} {f : JFrame} {r : List Frame} {pc : Nat} {vm' : Vm} (hfind : rc_To e s f a (.found pc) vm') :
    (stepThrowing e s a (.java f :: r)).Is ((s.setVm vm').setFrames (.java { f with pc := pc, stack := [.ref a] } :: r)) [] := by
  simp only [stepThrowing, searchFrame, vmDo]
  generalize hr : Sem.go _ e false [] s = res
  obtain ⟨as, rfl, ha⟩ := Sem.eq_ok_of hr (a := Handler.found pc) (s' := s.setVm vm') (acts' := []) (by simp [hfind _ _ _ _])
  exact ⟨rfl, ha⟩
theorem rc_frames (u : State) (vm' : Vm) (F G : List Frame) : ((u.setFrames F).setVm vm').setFrames G = (u.setVm vm').setFrames G := by
  have h1 : (u.setFrames F).setVm vm' = (u.setVm vm').setFrames F := rfl
  rw [h1, State.setFrames_setFrames]
theorem rc_caught {tb : Tables} {e : Env} {s target : State} {g : JFrame} {c : Code} {below : List Frame} {a : Addr} (h : At s g.method c below) {pc : Nat} {vm' : Vm}
    (hfind : rc_To e ((s.setTop g).pushFrame (.throwing a)) g a (.found pc) vm') (hrest : Steps tb e below ((s.setVm vm').setTop { g with pc := pc, stack := [.ref a] }) target) :
    Steps tb e below ((s.setTop g).pushFrame (.throwing a)) target := by
  obtain ⟨hgo, hw⟩ := h.throwing a
  refine Steps.head hgo hw ?_
  rw [stepThread_throwing (frames_entered h.top _), (rc_step (s := (s.setTop g).pushFrame (.throwing a)) hfind).1]
  obtain ⟨g₀, hg⟩ := Option.isSome_iff_exists.mp h.top
  obtain ⟨r, hr⟩ := State.topJava?_eq_some.mp hg
  have hr' : (s.setVm vm').frames = .java g₀ :: r := hr
  rw [State.setTop_of_frames _ hr'] at hrest
  rw [hr, List.tail_cons, State.pushFrame, rc_frames, State.setTop_of_frames _ hr, rc_frames]
  exact hrest
theorem rc_through {p : Program} {l : Launch} {e : Env} {R : Room} {s : State} {m₀ : MethodId} {args : Array Value} {below : List Frame} {meth : Method} {c : Code} {T : State} {locs : List Loc} {cells slots : Nat} (X : Stand p l e R s m₀ args below meth c T locs cells slots) (a : Addr) {g : JFrame} (hg : g.method = m₀)
    {cell : Cell} (hcell : T.heap[a]? = some cell) (hobj : ∀ k, cell.vm ≠ .statics k) (hk0 : ∃ k, s.vm.classes[cell.cls]? = some k)
    (pre : List ExceptionTableEntry) (x : ExceptionTableEntry) (rest : List ExceptionTableEntry) (hsplit : c.exceptionTable.toList = pre ++ x :: rest)
    (hpass : ∀ y ∈ pre, covers y g.pc = false ∨ (y.catchType ≠ 0 ∧ ∃ c, s.vm.ClassLinks e.platform m₀.cls y.catchType c ∧ s.vm.assignable cell.cls c = false)) (hx : covers x g.pc = true) (h0 : x.catchType ≠ 0) {cT : ClassId} (hl : s.vm.ClassLinks e.platform m₀.cls x.catchType cT) (hfit : s.vm.assignable cell.cls cT = true) :
    ∃ vm', Stand p l e R s m₀ args below meth c (T.setVm vm') locs cells slots ∧
      ∀ target, Steps p.tables e below ((T.setVm vm').setTop { g with pc := x.handlerPc, stack := [.ref a] }) target → Steps p.tables e below ((T.setTop g).pushFrame (.throwing a)) target := by
  subst hg
  obtain ⟨vm', hW', hq⟩ := rc_search (e := e) (s₀ := s) (f := g) (a := a) (cell := cell) hobj hk0 x rest hx h0 hl hfit pre ((T.setTop g).pushFrame (.throwing a)) X.warmed hcell hpass
  refine ⟨vm', X.noted hW', fun target hrest => rc_caught X.here (fun Q E d acts => ?_) hrest⟩
  rw [Jvm.W.findHandler_eq (s := (T.setTop g).pushFrame (.throwing a)) (meth := meth) (code := c) X.method' X.code, hsplit]
  exact hq Q E d acts
end RcCatch
/-! ===== BEGIN words of one list among another's, by their places ===== -/
theorem goodIn_r {big : List Cond} (ws : List Cond) (ps : List Nat) (hp : ws = ps.filterMap (fun i => big[i]?)) (h : ws.all goodWord = true) : GoodIn big ws := by
  intro w hw
  have h1 := List.all_eq_true.mp h w hw
  rw [hp] at hw
  obtain ⟨i, -, hi⟩ := List.mem_filterMap.mp hw
  have hm : w ∈ big := by first | exact List.mem_of_getElem? hi | exact List.getElem?_mem hi
  exact ⟨hm, good_of_word h1⟩
theorem goodIn_app {big a b : List Cond} (ha : GoodIn big a) (hb : GoodIn big b) : GoodIn big (a ++ b) := fun w h => (List.mem_append.mp h).elim (ha w) (hb w)
theorem goodIn_ca {big a b : List Cond} {c : Cond} (ha : GoodIn big (c :: a)) (hb : GoodIn big b) : GoodIn big (c :: (a ++ b)) := fun w h => (List.mem_cons.mp h).elim (fun e => ha w (List.mem_cons.mpr (Or.inl e))) (fun h => (List.mem_append.mp h).elim (fun h => ha w (List.mem_cons.mpr (Or.inr h))) (hb w))
theorem goodIn_sub {big ws : List Cond} (hm : ∀ w ∈ ws, w ∈ big) (h : ws.all goodWord = true) : GoodIn big ws := fun w hw => ⟨hm w hw, good_of_word (List.all_eq_true.mp h w hw)⟩
/-! ===== END ===== -/

/-! ===== BEGIN exceptions that leave a method, and their catching by the caller (launches without stack traces) ===== -/
section VXA
/-! The laws vx_back, vx_callV, vx_callS, vx_callSW, vx_throw0, vx_throwS follow proofs of the library, with one case more: JvmDerived/Free/Laws.lean (Back.of_free), Shelf42/LK1.lean (callV, callS), Shelf/KitTraced.lean (throwNew0V, throwNewS). -/
/-- where a method has thrown q: the class by its name, the cell, what was written, the world -/
def vx_T (XC : String → State → State → Prop) (st : State) (q : Addr) (t : State) (mc ms : Nat) (free : Addr → Prop) : Prop :=
  ∃ (E : String) (ce : Cell) (L : List Loc), XC E st t ∧ t.heap[q]? = some ce ∧ ce.vm = .none ∧ st.vm.findClass E = some ce.cls ∧ st.WarmedH t.vm ∧ st.sameButNew ({ t with vm := st.vm } : State) L mc ms ∧ ∀ z ∈ L, free z.base
def vx_Q (Qc : Array Value → State → Outcome → State → Prop) (XC : String → State → State → Prop) (mc ms : Nat) (free : Addr → Prop) : Array Value → State → Outcome → State → Prop := fun a st o t =>
  (Qc a st o t ∧ ∃ L, FrameEnd st o t L mc ms ∧ ∀ q ∈ L, free q.base) ∨ ∃ q, o = .threw q ∧ vx_T XC st q t mc ms free
/-- a callee that returns or throws -/
def vx_Met (l : Launch) (y : MethodName) (ws : List Cond) (rm : Room) (Pc : Array Value → State → Prop) (Qc : Array Value → State → Outcome → State → Prop) (XC : String → State → State → Prop) (mc ms : Nat) (free : Addr → Prop) : Prop :=
  MetFree l y (headSpec ws rm) Pc (fun _ _ _ _ _ => True) (vx_Q Qc XC mc ms free)
def vx_Post (XC : String → State → State → Prop) (mc ms : Nat) (free : Addr → Prop) : Pt → Array Value → Addr → Pt → Prop := fun A a q B =>
  ∃ (g : JFrame) (mk : MethodId) (t : State) (L : List Loc) (E : String) (ce : Cell), B.U.heap = t.heap ∧ B.U.vm = t.vm ∧ XC E (A.U.calling g mk a) t ∧ t.heap[q]? = some ce ∧ ce.vm = .none ∧ A.U.vm.findClass E = some ce.cls ∧ B.locs = A.locs ++ L ∧ (∀ z ∈ L, free z.base) ∧ B.cells = A.cells + mc ∧ B.slots = A.slots + ms
def vx_Back (l : Launch) (R : Room) (p : Program) (e : Env) (below : List Frame) (s : State) (sargs : Array Value) (y : MethodName) (len W9 : Nat)
    (Pre : Pt → Array Value → Prop) (Post : Pt → Array Value → Option Value → Pt → Prop) (PostX : Pt → Array Value → Addr → Pt → Prop) : Prop :=
  ∀ (m : MethodId) (meth : Method) (c : Code) (A : Pt) (g : JFrame) (ig : Instr) (mk : MethodId) (a : Array Value),
    Stand p l e R s m sargs below meth c A.U A.locs A.cells A.slots → g.method = m → g.locals.size = c.maxLocals → decode c.code g.pc = .ok (ig, len) →
    2 * g.monitorRoom + (g.stack.map fun v => v.category).sum ≤ W9 → A.U.methodNamed? y = some mk → Pre A a →
    (∃ (v : Option Value) (B : Pt), Stand p l e R s m sargs below meth c B.U B.locs B.cells B.slots ∧ Post A a v B ∧
      Steps p.tables e below (doInvoke e (A.U.setTop g) [] mk a).1 (B.U.setTop { g with pc := g.pc + len, stack := v.toList ++ g.stack })) ∨
    (∃ (q : Addr) (B : Pt), Stand p l e R s m sargs below meth c B.U B.locs B.cells B.slots ∧ PostX A a q B ∧
      Steps p.tables e below (doInvoke e (A.U.setTop g) [] mk a).1 ((B.U.setTop g).pushFrame (.throwing q)))
section Payer
variable {l : Launch} {R : Room} {p : Program} {e : Env} {below : List Frame} {s : State} {sargs : Array Value} {y : MethodName} {len W9 : Nat}
theorem vx_back {ws : List Cond} {rm : Room} {Pc : Array Value → State → Prop} {Qc : Array Value → State → Outcome → State → Prop} {XC : String → State → State → Prop} {mc ms : Nat} {free : Addr → Prop} {bytes : ByteArray} {maxL : Nat} {ret : Option FieldType}
    (hM : vx_Met l y ws rm Pc Qc XC mc ms free) (hblind : FrameBlind Pc) (hrc : rm.cells = mc) (hrs : rm.slots = ms)
    (hframes : rm.frames + 1 ≤ R.frames) (hlocals : W9 + (maxL + 11) + rm.locals ≤ R.locals)
    (hws : ∀ w ∈ ws, ∀ a' U, s.WarmedH U.vm → w.before a' U = true) (hcode : Cond.code y bytes maxL ret ∈ ws) (hinit : ∀ a' U, s.WarmedH U.vm → (Cond.initialized y.cls).before a' U = true) :
    vx_Back l R p e below s sargs y len W9 (PreOf R mc ms Pc) (PostOf Qc mc ms free) (vx_Post XC mc ms free) := by
  intro m meth c A g ig mk a X hg hsize hdg hW hn hp
  have h1 : (headSpec ws rm).pre.before a A.U = true := atoms_intro fun w hw => hws w hw _ _ X.warmed
  have h2 : (Cond.code y bytes maxL ret).before a A.U = true := hws _ hcode _ _ X.warmed
  have h3 : (Cond.initialized y.cls).before a A.U = true := hinit _ _ X.warmed
  have h4 : A.cells + (headSpec ws rm).room.cells ≤ R.cells := by rw [show (headSpec ws rm).room.cells = mc from hrc]; exact hp.1
  have h5 : A.slots + (headSpec ws rm).room.slots ≤ R.slots := by rw [show (headSpec ws rm).room.slots = ms from hrs]; exact hp.2.1
  have hPc : Pc a (A.U.calling g mk a) := hblind _ _ _ _ hp.2.2
  obtain ⟨U, Ls, c0, s0⟩ := A
  dsimp only [Pt.U, Pt.locs, Pt.cells, Pt.slots] at h1 h2 h3 h4 h5 X hn hPc ⊢
  obtain ⟨methY, cY, hmY, hcY, -, hlY, -, -, -, -⟩ := Cond.code_spec hn h2
  obtain ⟨kY, hkY, -⟩ := className_of_methodNamed hn
  have hinitY : kY.init = .initialized := Cond.initialized_spec (findClass_of_methodNamed hn) hkY h3
  have h : At U g.method c below := by rw [hg]; exact X.here
  have hlocals9 : W9 + (maxL + 11) + (headSpec ws rm).room.locals ≤ R.locals := hlocals
  have happ : (headSpec ws rm).appliesLoose y e.platform (U.calling g mk a) = true :=
    Spec.appliesLoose_calling (g := g) h hdg hn hkY hinitY
      (X.room_calling (g := g) (R' := (headSpec ws rm).room) hsize hmY hcY hframes (by rw [hlY]; omega) h4 h5) h1
  obtain ⟨mid, hmid⟩ := h.above
  have hfr : (U.setTop g).frames = (.java g :: mid) ++ below := by rw [State.frames_setTop' g h.top, hmid]; rfl
  obtain ⟨o, s₂, hsteps, -, hend, hq⟩ := Steps.callFree hM p X.admits X.cas X.clock (acts := []) hfr happ hPc trivial
  have hq' : vx_Q Qc XC mc ms free a (U.calling g mk a) o s₂ := hq
  rw [State.frames_setTop' g h.top] at hend
  obtain ⟨g₀, hg0⟩ := Option.isSome_iff_exists.mp h.top
  obtain ⟨r, hr⟩ := State.topJava?_eq_some.mp hg0
  have hr' : (({ U with heap := s₂.heap, slotsUsed := s₂.slotsUsed } : State).setVm s₂.vm).frames = .java g₀ :: r := hr
  rcases hq' with ⟨hqc, L, hfe, hL⟩ | ⟨q, rfl, E, ce, L, hx, hce, hcv, hcl, hW₂, hsm, hL⟩
  · obtain ⟨⟨v, rfl⟩, hW₂, e2, q2, q3, q4, q5, q6⟩ := id hfe
    have e3 : s₂ = ({ (U.calling g mk a).setFrames s₂.frames with heap := s₂.heap, slotsUsed := s₂.slotsUsed } : State).setVm s₂.vm := by
      have : s₂ = ({ s₂ with vm := (U.calling g mk a).vm } : State).setVm s₂.vm := rfl
      rw [e2] at this
      exact this
    obtain ⟨c₂, i₂, len₂, hc₂, hd₂, hf₂⟩ := hend
    have hW' : U.WarmedH s₂.vm := hW₂
    have hcc : c₂ = c := by
      have h1 : s₂.code? g.method = U.code? g.method := by
        rw [State.code?_eq, State.code?_eq, hW'.alike.method?]
      exact Option.some.inj (hc₂.symm.trans (h1.trans h.code))
    subst hcc
    have hlen : len₂ = len := by rw [hdg] at hd₂; cases hd₂; rfl
    subst hlen
    have hs₂ : s₂ = (({ U with heap := s₂.heap, slotsUsed := s₂.slotsUsed } : State).setVm s₂.vm).setTop { g with pc := g.pc + len₂, stack := v.toList ++ g.stack } := by
      refine e3.trans ?_
      rw [hf₂, State.calling_eq h.top, State.setFrames_setFrames, State.setTop_of_frames _ hr', hr]
      rfl
    have hsame : U.sameButNew ({ U with heap := s₂.heap, slotsUsed := s₂.slotsUsed } : State) L mc ms := by
      refine ⟨?_, q2, q3, q4, q5, q6⟩
      obtain ⟨t, ht, -⟩ := State.frames_cons hr
      show ({ U with heap := s₂.heap, slotsUsed := s₂.slotsUsed } : State) = { U.setFrames U.frames with heap := s₂.heap, slotsUsed := s₂.slotsUsed }
      rw [State.setFrames_self ht]
    subst hg
    refine Or.inl ⟨v, ⟨(({ U with heap := s₂.heap, slotsUsed := s₂.slotsUsed } : State).setVm s₂.vm), Ls ++ L, c0 + mc, s0 + ms⟩,
      ⟨X.admits, X.cas, X.clock, X.frames, X.room, X.hears, X.method, X.code, (X.here.setHeapUsed s₂.heap s₂.slotsUsed).setVm hW'.alike, X.tail, State.WarmedH.trans X.warmed hW', X.limits, X.bytes, X.same.trans (hsame.setVm s.vm)⟩,
      ⟨g, mk, s₂, L, rfl, rfl, hqc, rfl, hL, rfl, rfl⟩, ?_⟩
    show Steps p.tables e below _ ((({ U with heap := s₂.heap, slotsUsed := s₂.slotsUsed } : State).setVm s₂.vm).setTop { g with pc := g.pc + len₂, stack := v.toList ++ g.stack })
    rw [← hs₂]
    exact hsteps
  · obtain ⟨e2, q2, q3, q4, q5, q6⟩ := id hsm
    have e3 : s₂ = ({ (U.calling g mk a).setFrames s₂.frames with heap := s₂.heap, slotsUsed := s₂.slotsUsed } : State).setVm s₂.vm := by
      have : s₂ = ({ s₂ with vm := (U.calling g mk a).vm } : State).setVm s₂.vm := rfl
      rw [e2] at this
      exact this
    have hf₂ : s₂.frames = .throwing q :: .java g :: U.frames.tail := hend
    have hW' : U.WarmedH s₂.vm := hW₂
    have hs₂ : s₂ = ((({ U with heap := s₂.heap, slotsUsed := s₂.slotsUsed } : State).setVm s₂.vm).setTop g).pushFrame (.throwing q) := by
      refine e3.trans ?_
      rw [hf₂, State.calling_eq h.top, State.setFrames_setFrames, State.pushFrame, State.frames_setTop _ hr', State.setTop_of_frames _ hr', State.setFrames_setFrames, hr]
      rfl
    have hsame : U.sameButNew ({ U with heap := s₂.heap, slotsUsed := s₂.slotsUsed } : State) L mc ms := by
      refine ⟨?_, q2, q3, q4, q5, q6⟩
      obtain ⟨t, ht, -⟩ := State.frames_cons hr
      show ({ U with heap := s₂.heap, slotsUsed := s₂.slotsUsed } : State) = { U.setFrames U.frames with heap := s₂.heap, slotsUsed := s₂.slotsUsed }
      rw [State.setFrames_self ht]
    subst hg
    refine Or.inr ⟨q, ⟨(({ U with heap := s₂.heap, slotsUsed := s₂.slotsUsed } : State).setVm s₂.vm), Ls ++ L, c0 + mc, s0 + ms⟩,
      ⟨X.admits, X.cas, X.clock, X.frames, X.room, X.hears, X.method, X.code, (X.here.setHeapUsed s₂.heap s₂.slotsUsed).setVm hW'.alike, X.tail, State.WarmedH.trans X.warmed hW', X.limits, X.bytes, X.same.trans (hsame.setVm s.vm)⟩,
      ⟨g, mk, s₂, L, E, ce, rfl, rfl, hx, hce, hcv, hcl, rfl, hL, rfl, rfl⟩, ?_⟩
    show Steps p.tables e below _ (((({ U with heap := s₂.heap, slotsUsed := s₂.slotsUsed } : State).setVm s₂.vm).setTop g).pushFrame (.throwing q))
    rw [← hs₂]
    exact hsteps
end Payer
section Calls
variable {p : Program} {l : Launch} {e : Env} {R : Room} {s : State} {m : MethodId} {args : Array Value} {below : List Frame} {meth : Method} {c : Code} {T : State} {locs : List Loc} {cells slots : Nat}
theorem vx_callV (X : Stand p l e R s m args below meth c T locs cells slots) (hexec : p.tables.exec = Jvm.exec) {own C : String} {index : Nat} {y : MethodName} {bytes : ByteArray} {maxL : Nat} {ret : Option FieldType}
    (hown : s.vm.findClass own = some m.cls) (hlink : (Cond.methodLink own index y).before args s = true) (hinst : (Cond.instanceMethod y).before args s = true) (hsel : (Cond.selects C y y).before args s = true)
    (hcode : (Cond.code y bytes maxL ret).before args s = true) (hy : y.cls ≠ "java/lang/invoke/MethodHandle" ∧ y.cls ≠ "java/lang/invoke/VarHandle")
    {W9 : Nat} {Pre : Pt → Array Value → Prop} {Post : Pt → Array Value → Option Value → Pt → Prop} {PostX : Pt → Array Value → Addr → Pt → Prop} (hK : vx_Back l R p e below s args y 3 W9 Pre Post PostX)
    {b : Addr} {cellB : Cell} (hcell : T.heap[b]? = some cellB) (hobj : cellB.vm.isStatics = false) (hcls : s.vm.findClass C = some cellB.cls)
    {g : JFrame} (hg : g.method = m) (hsize : g.locals.size = c.maxLocals) {argsL rest : List Value} (hlen : ∀ sig, parseMethodDescriptor y.desc = some sig → argsL.length = sig.parameters.length)
    (hstack : g.stack = argsL.reverse ++ .ref b :: rest) (hW : 2 * g.monitorRoom + (rest.map fun v => v.category).sum ≤ W9) (hdg : decode c.code g.pc = .ok (.invokevirtual index, 3))
    (hpre : ∀ vm₁, s.WarmedH vm₁ → Pre ⟨T.setVm vm₁, locs, cells, slots⟩ (Value.ref b :: argsL).toArray) :
    (∃ (v : Option Value) (vm₁ : Vm) (B : Pt), s.WarmedH vm₁ ∧ Stand p l e R s m args below meth c B.U B.locs B.cells B.slots ∧ Post ⟨T.setVm vm₁, locs, cells, slots⟩ (Value.ref b :: argsL).toArray v B ∧
      ∀ target, Steps p.tables e below (B.U.setTop { g with pc := g.pc + 3, stack := v.toList ++ rest }) target → Steps p.tables e below (T.setTop g) target) ∨
    (∃ (q : Addr) (vm₁ : Vm) (B : Pt), s.WarmedH vm₁ ∧ Stand p l e R s m args below meth c B.U B.locs B.cells B.slots ∧ PostX ⟨T.setVm vm₁, locs, cells, slots⟩ (Value.ref b :: argsL).toArray q B ∧
      Steps p.tables e below (T.setTop g) ((B.U.setTop { g with stack := rest }).pushFrame (.throwing q))) := by
  obtain ⟨mk, methM, hnamed, hmethM, hstM, habM⟩ := Cond.instanceMethod_spec hinst
  obtain ⟨methM', cM, hmethM', -, -, -, -, -, -, hsigM⟩ := Cond.code_spec hnamed hcode
  cases hmethM.symm.trans hmethM'
  obtain ⟨c2, r2, m2, q1, q2, q3, q4, kP, hkP, hkPi⟩ := Cond.selects_spec hsel
  cases hcls.symm.trans q1
  cases (State.methodFound?_of_named hnamed hy).symm.trans q2
  cases hnamed.symm.trans q3
  have hselP : selectMethod e.platform s.vm cellB.cls mk = .method mk := by rw [Launch.admits_selectMethod X.admits]; exact q4
  obtain ⟨vm₁, X₁, hstep₁⟩ := X.invokevirtual hexec hown hlink hnamed hmethM hstM hkP hkPi hy (a := b) (cell := cellB) hcell
    (fun z h => by rw [h] at hobj; cases hobj) hselP hmethM habM hkP hkPi (g := g) hg (argsL := argsL) (rest := rest) (hlen _ hsigM) hstack hdg
  rcases hK m meth c ⟨T.setVm vm₁, locs, cells, slots⟩ { g with stack := rest } (.invokevirtual index) mk (Value.ref b :: argsL).toArray X₁ hg hsize hdg hW (X₁.named hnamed) (hpre vm₁ X₁.warmed) with ⟨v, B, X', hpost, hsteps⟩ | ⟨q, B, X', hpost, hsteps⟩
  · exact Or.inl ⟨v, vm₁, B, X₁.warmed, X', hpost, fun target h => hstep₁ _ fun acts => by rw [doInvoke_state]; exact hsteps.trans h⟩
  · exact Or.inr ⟨q, vm₁, B, X₁.warmed, X', hpost, hstep₁ _ fun acts => by rw [doInvoke_state]; exact hsteps⟩
theorem vx_callS (X : Stand p l e R s m args below meth c T locs cells slots) (hexec : p.tables.exec = Jvm.exec) {own : String} {index : Nat} {y : MethodName} {bytes : ByteArray} {maxL : Nat} {ret : Option FieldType}
    (hown : s.vm.findClass own = some m.cls) (hlink : (Cond.methodLink own index y).before args s = true) (hstat : (Cond.static y).before args s = true) (hinit : (Cond.initialized y.cls).before args s = true)
    (hcode : (Cond.code y bytes maxL ret).before args s = true) (hy : y.cls ≠ "java/lang/invoke/MethodHandle" ∧ y.cls ≠ "java/lang/invoke/VarHandle")
    {W9 : Nat} {Pre : Pt → Array Value → Prop} {Post : Pt → Array Value → Option Value → Pt → Prop} {PostX : Pt → Array Value → Addr → Pt → Prop} (hK : vx_Back l R p e below s args y 3 W9 Pre Post PostX)
    {g : JFrame} (hg : g.method = m) (hsize : g.locals.size = c.maxLocals) {argsL rest : List Value} (hlen : ∀ sig, parseMethodDescriptor y.desc = some sig → argsL.length = sig.parameters.length)
    (hstack : g.stack = argsL.reverse ++ rest) (hW : 2 * g.monitorRoom + (rest.map fun v => v.category).sum ≤ W9) (hdg : decode c.code g.pc = .ok (.invokestatic index, 3))
    (hpre : ∀ vm₁, s.WarmedH vm₁ → Pre ⟨T.setVm vm₁, locs, cells, slots⟩ argsL.toArray) :
    (∃ (v : Option Value) (vm₁ : Vm) (B : Pt), s.WarmedH vm₁ ∧ Stand p l e R s m args below meth c B.U B.locs B.cells B.slots ∧ Post ⟨T.setVm vm₁, locs, cells, slots⟩ argsL.toArray v B ∧
      ∀ target, Steps p.tables e below (B.U.setTop { g with pc := g.pc + 3, stack := v.toList ++ rest }) target → Steps p.tables e below (T.setTop g) target) ∨
    (∃ (q : Addr) (vm₁ : Vm) (B : Pt), s.WarmedH vm₁ ∧ Stand p l e R s m args below meth c B.U B.locs B.cells B.slots ∧ PostX ⟨T.setVm vm₁, locs, cells, slots⟩ argsL.toArray q B ∧
      Steps p.tables e below (T.setTop g) ((B.U.setTop { g with stack := rest }).pushFrame (.throwing q))) := by
  obtain ⟨mk, hnamed⟩ := Cond.code_named hcode
  obtain ⟨methM, cM, hmethM, -, -, -, -, -, -, hsigM⟩ := Cond.code_spec hnamed hcode
  have hstatic : methM.isStatic = true := Cond.static_spec hnamed hmethM hstat
  obtain ⟨kP, hkP, -⟩ := className_of_methodNamed hnamed
  have hinitP : kP.init = .initialized := Cond.initialized_spec (findClass_of_methodNamed hnamed) hkP hinit
  obtain ⟨vm₁, X₁, hstep₁⟩ := X.invokestatic hexec hown hlink hnamed hmethM hstatic hkP hinitP hy (g := g) hg (argsL := argsL) (rest := rest) (hlen _ hsigM) hstack hdg
  rcases hK m meth c ⟨T.setVm vm₁, locs, cells, slots⟩ { g with stack := rest } (.invokestatic index) mk argsL.toArray X₁ hg hsize hdg hW (X₁.named hnamed) (hpre vm₁ X₁.warmed) with ⟨v, B, X', hpost, hsteps⟩ | ⟨q, B, X', hpost, hsteps⟩
  · exact Or.inl ⟨v, vm₁, B, X₁.warmed, X', hpost, fun target h => hstep₁ _ fun acts => by rw [doInvoke_state]; exact hsteps.trans h⟩
  · exact Or.inr ⟨q, vm₁, B, X₁.warmed, X', hpost, hstep₁ _ fun acts => by rw [doInvoke_state]; exact hsteps⟩
end Calls
theorem vx_cls {s : State} {T : State} {vm₁ : Vm} {E : String} {k : ClassId} (hW : s.WarmedH vm₁) (h : (T.setVm vm₁).vm.findClass E = some k) : s.vm.findClass E = some k := by
  have h1 : vm₁.findClass E = some k := h
  rw [hW.alike.findClass] at h1
  exact h1
/-- the method's frame g, with q thrown over it -/
def vx_W (p : Program) (l : Launch) (e : Env) (R : Room) (s : State) (m : MethodId) (args : Array Value) (below : List Frame) (meth : Method) (c : Code) (H : Heap) (locs : List Loc) (cells slots : Nat) (Q : State → Prop) (g : JFrame) (q : Addr) : Prop :=
  ∀ T : State, T.heap = H → Stand p l e R s m args below meth c T locs cells slots → ∃ t, Steps p.tables e below ((T.setTop g).pushFrame (.throwing q)) t ∧ Q t
def vx_Run (p : Program) (l : Launch) (e : Env) (R : Room) (s : State) (m : MethodId) (args : Array Value) (below : List Frame) (meth : Method) (c : Code) (H : Heap) (locs : List Loc) (cells slots mc ms : Nat) (g : JFrame) (rest : List Value) (Qa : State → Outcome → State → Prop) (XC : String → State → State → Prop) (free : Addr → Prop) : Prop :=
  ∀ T : State, T.heap = H → Stand p l e R s m args below meth c T locs cells slots →
    (∃ (v : Option Value) (st₀ t T' : State) (L : List Loc), st₀.heap = H ∧ Stand p l e R s m args below meth c T' (locs ++ L) (cells + mc) (slots + ms) ∧ (∀ q ∈ L, free q.base) ∧ T'.heap = t.heap ∧ T'.vm = t.vm ∧ Qa st₀ (.returned v) t ∧
      Goes p e below T g T' { g with pc := g.pc + 3, stack := v.toList ++ rest }) ∨
    (∃ (q : Addr) (st₀ t T' : State) (L : List Loc) (E : String) (ce : Cell), st₀.heap = H ∧ Stand p l e R s m args below meth c T' (locs ++ L) (cells + mc) (slots + ms) ∧ (∀ z ∈ L, free z.base) ∧ T'.heap = t.heap ∧ T'.vm = t.vm ∧ XC E st₀ t ∧ t.heap[q]? = some ce ∧ ce.vm = .none ∧ s.vm.findClass E = some ce.cls ∧
      Steps p.tables e below (T.setTop g) ((T'.setTop { g with stack := rest }).pushFrame (.throwing q)))
def vx_X {S : Type} (px : S → Prop) (B : String → S → State → Prop) (A : Nat → Prop) : String → State → State → Prop := fun E st t => ∃ u : S, px u ∧ B E u t ∧ va_F A st t
section Runs
variable {p : Program} {l : Launch} {e : Env} {R : Room} {s : State} {m : MethodId} {args : Array Value} {below : List Frame} {meth : Method} {c : Code} {H : Heap} {locs : List Loc} {cells slots : Nat}
variable {y : MethodName} {bytes cc : ByteArray} {maxL nL mc ms n index : Nat} {ret : Option FieldType} {ws : List Cond} {rm : Room} {Pc : Array Value → State → Prop} {Qc : Array Value → State → Outcome → State → Prop} {XC : String → State → State → Prop} {free : Addr → Prop} {Ts : List Cond} {own C : String} {b : Addr} {As rest : List Value} {g : JFrame}
theorem vx_callBack (cb : CallB R s args own index y bytes maxL ret ws rm mc ms n) (hM : vx_Met l y ws rm Pc Qc XC mc ms free) (hbl : FrameBlind Pc) : vx_Back l R p e below s args y 3 8 (PreOf R mc ms Pc) (PostOf Qc mc ms free) (vx_Post XC mc ms free) := by
  obtain ⟨hrc, hrs, hfr, hlo, hws, hcw, -, hini, -⟩ := cb
  exact vx_back (bytes := bytes) (maxL := maxL) (ret := ret) hM hbl hrc hrs hfr hlo hws hcw (fun a' U hW => word_at hW (Or.inl (by first | rfl | simp [Cond.onTables, Cond.keeps, Cond.steady])) hini)
theorem vx_runV (S : CallFix p m c cc nL s args Ts own) (hM : vx_Met l y ws rm Pc Qc XC mc ms free) (cw : CallW R s args own C index y bytes maxL ret ws rm mc ms n) (hp : PreV s H C b Pc As)
    (hg : g.method = m) (hn : As.length = n) (hsize : g.locals.size = nL) (hstack : g.stack = As.reverse ++ .ref b :: rest) (hW : 2 * g.monitorRoom + (rest.map fun v => v.category).sum ≤ 8) (hdg : decode cc g.pc = .ok (.invokevirtual index, 3)) (hf : cells + mc ≤ R.cells ∧ slots + ms ≤ R.slots) :
    vx_Run p l e R s m args below meth c H locs cells slots mc ms g rest (Qc (Value.ref b :: As).toArray) XC free := by
  have hK : vx_Back l R p e below s args y 3 8 (PreOf R mc ms Pc) (PostOf Qc mc ms free) (vx_Post XC mc ms free) := vx_callBack cw.1 hM hp.1
  obtain ⟨⟨-, -, -, -, -, -, hcode, -, hy, hlen, hl⟩, hin, hse⟩ := cw
  obtain ⟨hx, hb, hml, ho, -⟩ := S
  obtain ⟨-, ⟨cellB, hcB, hoB, hclB⟩, hPc⟩ := hp
  intro T hT X
  rcases vx_callV X hx (C := C) (bytes := bytes) (maxL := maxL) (ret := ret) ho hl hin hse hcode hy hK (by rw [hT]; exact hcB) hoB hclB hg (hsize.trans hml.symm) (argsL := As) (rest := rest) (fun sig h => hn.trans (hlen sig h)) hstack hW (by rw [hb]; exact hdg)
    (fun vm₁ hW₁ => ⟨hf.1, hf.2, hPc (T.setVm vm₁) hT hW₁⟩) with ⟨v, vm₁, ⟨U', l2, c2, s2⟩, hW₁, X', ⟨g', mk, t, L, e1, e2, hq, h1, hL, h2, h3⟩, st⟩ | ⟨q, vm₁, ⟨U', l2, c2, s2⟩, hW₁, X', ⟨g', mk, t, L, E, ce, e1, e2, hq, hce, hcv, hcl, h1, hL, h2, h3⟩, st⟩
  · dsimp only [Pt.U, Pt.locs, Pt.cells, Pt.slots] at X' e1 e2 h1 h2 h3 st
    subst h1; subst h2; subst h3
    exact Or.inl ⟨v, (T.setVm vm₁).calling g' mk (Value.ref b :: As).toArray, t, U', L, hT, X', hL, e1, e2, hq, st⟩
  · dsimp only [Pt.U, Pt.locs, Pt.cells, Pt.slots] at X' e1 e2 h1 h2 h3 st hcl
    subst h1; subst h2; subst h3
    exact Or.inr ⟨q, (T.setVm vm₁).calling g' mk (Value.ref b :: As).toArray, t, U', L, E, ce, hT, X', hL, e1, e2, hq, hce, hcv, vx_cls hW₁ hcl, st⟩
theorem vx_runS (S : CallFix p m c cc nL s args Ts own) (hM : vx_Met l y ws rm Pc Qc XC mc ms free) (cw : CallB R s args own index y bytes maxL ret ws rm mc ms n ∧ (Cond.static y).before args s = true) (hp : PreS s H Pc As)
    (hg : g.method = m) (hn : As.length = n) (hsize : g.locals.size = nL) (hstack : g.stack = As.reverse ++ rest) (hW : 2 * g.monitorRoom + (rest.map fun v => v.category).sum ≤ 8) (hdg : decode cc g.pc = .ok (.invokestatic index, 3)) (hf : cells + mc ≤ R.cells ∧ slots + ms ≤ R.slots) :
    vx_Run p l e R s m args below meth c H locs cells slots mc ms g rest (Qc As.toArray) XC free := by
  have hK : vx_Back l R p e below s args y 3 8 (PreOf R mc ms Pc) (PostOf Qc mc ms free) (vx_Post XC mc ms free) := vx_callBack cw.1 hM hp.1
  obtain ⟨⟨-, -, -, -, -, -, hcode, hini, hy, hlen, hl⟩, hstt⟩ := cw
  obtain ⟨hx, hb, hml, ho, -⟩ := S
  intro T hT X
  rcases vx_callS X hx (bytes := bytes) (maxL := maxL) (ret := ret) ho hl hstt hini hcode hy hK hg (hsize.trans hml.symm) (argsL := As) (rest := rest) (fun sig h => hn.trans (hlen sig h)) hstack hW (by rw [hb]; exact hdg)
    (fun vm₁ hW₁ => ⟨hf.1, hf.2, hp.2 (T.setVm vm₁) hT hW₁⟩) with ⟨v, vm₁, ⟨U', l2, c2, s2⟩, hW₁, X', ⟨g', mk, t, L, e1, e2, hq, h1, hL, h2, h3⟩, st⟩ | ⟨q, vm₁, ⟨U', l2, c2, s2⟩, hW₁, X', ⟨g', mk, t, L, E, ce, e1, e2, hq, hce, hcv, hcl, h1, hL, h2, h3⟩, st⟩
  · dsimp only [Pt.U, Pt.locs, Pt.cells, Pt.slots] at X' e1 e2 h1 h2 h3 st
    subst h1; subst h2; subst h3
    exact Or.inl ⟨v, (T.setVm vm₁).calling g' mk As.toArray, t, U', L, hT, X', hL, e1, e2, hq, st⟩
  · dsimp only [Pt.U, Pt.locs, Pt.cells, Pt.slots] at X' e1 e2 h1 h2 h3 st hcl
    subst h1; subst h2; subst h3
    exact Or.inr ⟨q, (T.setVm vm₁).calling g' mk As.toArray, t, U', L, E, ce, hT, X', hL, e1, e2, hq, hce, hcv, vx_cls hW₁ hcl, st⟩
end Runs
section Rows
variable {p : Program} {l : Launch} {e : Env} {R : Room} {s : State} {m : MethodId} {args : Array Value} {below : List Frame} {meth : Method} {c : Code} {H : Heap} {locs : List Loc} {cells slots : Nat} {Q : State → Prop}
variable {mc ms : Nat} {free : Addr → Prop} {A0 A1 : Nat → Prop} {H0 : Heap} {a : Array Value} {pc : Nat} {ls : Array Slot} {st0 rest : List Value}
theorem vx_keep {st₀ t T' : State} {L : List Loc} (h0 : st₀.heap = H) (e1 : T'.heap = t.heap) (hS : va_S A0 H0 H locs) (hA : ∀ q, q < H.size → A1 q → A0 q) (hf : ∀ q, free q → A0 q) (hL : ∀ q ∈ L, free q.base) (hF : va_F A1 st₀ t) :
    H.size ≤ T'.heap.size ∧ (∀ q : Nat, q < H.size → ¬ A1 q → T'.heap[q]? = H[q]?) ∧ va_S A0 H0 T'.heap (locs ++ L) := by
  obtain ⟨hz, hk⟩ := hF
  rw [h0] at hz hk
  exact ⟨by rw [e1]; exact hz, fun q h1 h2 => by rw [e1]; exact hk q h1 h2,
    ⟨Nat.le_trans hS.1 (by rw [e1]; exact hz), fun q h1 h2 => by rw [e1, hk q (Nat.lt_of_lt_of_le h1 hS.1) (fun z => h2 (hA q (Nat.lt_of_lt_of_le h1 hS.1) z))]; exact hS.2.1 q h1 h2, fun q hq => by
      rcases List.mem_append.mp hq with h | h
      · exact hS.2.2 q h
      · exact hf _ (hL q h)⟩⟩
theorem vx_calli {S SX : Type} {post : Int32 → S → Prop} {px : SX → Prop} {B : S → State → Prop} {BX : String → SX → State → Prop} {AX : Nat → Prop} (hr : vx_Run p l e R s m args below meth c H locs cells slots mc ms (F0 m pc ls st0) rest (va_Qi post B A1 a) (vx_X px BX AX) free) (hS : va_S A0 H0 H locs) (hA : ∀ q, q < H.size → A1 q → A0 q) (hf : ∀ q, free q → A0 q) (hAX : ∀ q, q < H.size → AX q → A0 q)
    (kx : ∀ (E : String) (ce : Cell) (q9 : Addr) (u : SX) (t : State) (H1 : Heap) (locs1 : List Loc), t.heap = H1 → s.vm.Alike t.vm → px u → BX E u t → H.size ≤ H1.size → (∀ q : Nat, q < H.size → ¬ AX q → H1[q]? = H[q]?) → va_S A0 H0 H1 locs1 → H1[q9]? = some ce → ce.vm = .none → s.vm.findClass E = some ce.cls → vx_W p l e R s m args below meth c H1 locs1 (cells + mc) (slots + ms) Q (F0 m pc ls rest) q9)
    (kk : ∀ (r : Int32) (u : S) (t : State) (H1 : Heap) (locs1 : List Loc), t.heap = H1 → s.vm.Alike t.vm → post r u → B u t → H.size ≤ H1.size → (∀ q : Nat, q < H.size → ¬ A1 q → H1[q]? = H[q]?) → va_S A0 H0 H1 locs1 → W p l e R s m args below meth c H1 locs1 (cells + mc) (slots + ms) Q (F0 m (pc + 3) ls (.int r :: rest))) : W p l e R s m args below meth c H locs cells slots Q (F0 m pc ls st0) := by
  intro T hT X
  rcases hr T hT X with ⟨v, st₀, t, T', L, h0, X', hL, e1, e2, ⟨⟨r, u, hv, hp, hb⟩, hF⟩, st⟩ | ⟨q, st₀, t, T', L, E, ce, h0, X', hL, e1, e2, ⟨u, hp, hb, hF⟩, hce, hcv, hcl, st⟩
  · cases hv
    obtain ⟨k1, k2, k3⟩ := vx_keep h0 e1 hS hA hf hL hF
    obtain ⟨t2, a1, b1⟩ := kk r u t T'.heap (locs ++ L) e1.symm (by rw [← e2]; exact X'.warmed.alike) hp hb k1 k2 k3 T' rfl X'
    exact ⟨t2, st t2 a1, b1⟩
  · obtain ⟨k1, k2, k3⟩ := vx_keep h0 e1 hS hAX hf hL hF
    obtain ⟨t2, a1, b1⟩ := kx E ce q u t T'.heap (locs ++ L) e1.symm (by rw [← e2]; exact X'.warmed.alike) hp hb k1 k2 k3 (by rw [e1]; exact hce) hcv hcl T' rfl X'
    exact ⟨t2, st.trans a1, b1⟩
theorem vx_calll {S SX : Type} {post : Int64 → S → Prop} {px : SX → Prop} {B : S → State → Prop} {BX : String → SX → State → Prop} {AX : Nat → Prop} (hr : vx_Run p l e R s m args below meth c H locs cells slots mc ms (F0 m pc ls st0) rest (va_Ql post B A1 a) (vx_X px BX AX) free) (hS : va_S A0 H0 H locs) (hA : ∀ q, q < H.size → A1 q → A0 q) (hf : ∀ q, free q → A0 q) (hAX : ∀ q, q < H.size → AX q → A0 q)
    (kx : ∀ (E : String) (ce : Cell) (q9 : Addr) (u : SX) (t : State) (H1 : Heap) (locs1 : List Loc), t.heap = H1 → s.vm.Alike t.vm → px u → BX E u t → H.size ≤ H1.size → (∀ q : Nat, q < H.size → ¬ AX q → H1[q]? = H[q]?) → va_S A0 H0 H1 locs1 → H1[q9]? = some ce → ce.vm = .none → s.vm.findClass E = some ce.cls → vx_W p l e R s m args below meth c H1 locs1 (cells + mc) (slots + ms) Q (F0 m pc ls rest) q9)
    (kk : ∀ (r : Int64) (u : S) (t : State) (H1 : Heap) (locs1 : List Loc), t.heap = H1 → s.vm.Alike t.vm → post r u → B u t → H.size ≤ H1.size → (∀ q : Nat, q < H.size → ¬ A1 q → H1[q]? = H[q]?) → va_S A0 H0 H1 locs1 → W p l e R s m args below meth c H1 locs1 (cells + mc) (slots + ms) Q (F0 m (pc + 3) ls (.long r :: rest))) : W p l e R s m args below meth c H locs cells slots Q (F0 m pc ls st0) := by
  intro T hT X
  rcases hr T hT X with ⟨v, st₀, t, T', L, h0, X', hL, e1, e2, ⟨⟨r, u, hv, hp, hb⟩, hF⟩, st⟩ | ⟨q, st₀, t, T', L, E, ce, h0, X', hL, e1, e2, ⟨u, hp, hb, hF⟩, hce, hcv, hcl, st⟩
  · cases hv
    obtain ⟨k1, k2, k3⟩ := vx_keep h0 e1 hS hA hf hL hF
    obtain ⟨t2, a1, b1⟩ := kk r u t T'.heap (locs ++ L) e1.symm (by rw [← e2]; exact X'.warmed.alike) hp hb k1 k2 k3 T' rfl X'
    exact ⟨t2, st t2 a1, b1⟩
  · obtain ⟨k1, k2, k3⟩ := vx_keep h0 e1 hS hAX hf hL hF
    obtain ⟨t2, a1, b1⟩ := kx E ce q u t T'.heap (locs ++ L) e1.symm (by rw [← e2]; exact X'.warmed.alike) hp hb k1 k2 k3 (by rw [e1]; exact hce) hcv hcl T' rfl X'
    exact ⟨t2, st.trans a1, b1⟩
theorem vx_callf {S SX : Type} {post : UInt32 → S → Prop} {px : SX → Prop} {B : S → State → Prop} {BX : String → SX → State → Prop} {AX : Nat → Prop} (hr : vx_Run p l e R s m args below meth c H locs cells slots mc ms (F0 m pc ls st0) rest (va_Qf post B A1 a) (vx_X px BX AX) free) (hS : va_S A0 H0 H locs) (hA : ∀ q, q < H.size → A1 q → A0 q) (hf : ∀ q, free q → A0 q) (hAX : ∀ q, q < H.size → AX q → A0 q)
    (kx : ∀ (E : String) (ce : Cell) (q9 : Addr) (u : SX) (t : State) (H1 : Heap) (locs1 : List Loc), t.heap = H1 → s.vm.Alike t.vm → px u → BX E u t → H.size ≤ H1.size → (∀ q : Nat, q < H.size → ¬ AX q → H1[q]? = H[q]?) → va_S A0 H0 H1 locs1 → H1[q9]? = some ce → ce.vm = .none → s.vm.findClass E = some ce.cls → vx_W p l e R s m args below meth c H1 locs1 (cells + mc) (slots + ms) Q (F0 m pc ls rest) q9)
    (kk : ∀ (r : UInt32) (u : S) (t : State) (H1 : Heap) (locs1 : List Loc), t.heap = H1 → s.vm.Alike t.vm → post r u → B u t → H.size ≤ H1.size → (∀ q : Nat, q < H.size → ¬ A1 q → H1[q]? = H[q]?) → va_S A0 H0 H1 locs1 → W p l e R s m args below meth c H1 locs1 (cells + mc) (slots + ms) Q (F0 m (pc + 3) ls (.float r :: rest))) : W p l e R s m args below meth c H locs cells slots Q (F0 m pc ls st0) := by
  intro T hT X
  rcases hr T hT X with ⟨v, st₀, t, T', L, h0, X', hL, e1, e2, ⟨⟨r, u, hv, hp, hb⟩, hF⟩, st⟩ | ⟨q, st₀, t, T', L, E, ce, h0, X', hL, e1, e2, ⟨u, hp, hb, hF⟩, hce, hcv, hcl, st⟩
  · cases hv
    obtain ⟨k1, k2, k3⟩ := vx_keep h0 e1 hS hA hf hL hF
    obtain ⟨t2, a1, b1⟩ := kk r u t T'.heap (locs ++ L) e1.symm (by rw [← e2]; exact X'.warmed.alike) hp hb k1 k2 k3 T' rfl X'
    exact ⟨t2, st t2 a1, b1⟩
  · obtain ⟨k1, k2, k3⟩ := vx_keep h0 e1 hS hAX hf hL hF
    obtain ⟨t2, a1, b1⟩ := kx E ce q u t T'.heap (locs ++ L) e1.symm (by rw [← e2]; exact X'.warmed.alike) hp hb k1 k2 k3 (by rw [e1]; exact hce) hcv hcl T' rfl X'
    exact ⟨t2, st.trans a1, b1⟩
theorem vx_calld {S SX : Type} {post : UInt64 → S → Prop} {px : SX → Prop} {B : S → State → Prop} {BX : String → SX → State → Prop} {AX : Nat → Prop} (hr : vx_Run p l e R s m args below meth c H locs cells slots mc ms (F0 m pc ls st0) rest (va_Qd post B A1 a) (vx_X px BX AX) free) (hS : va_S A0 H0 H locs) (hA : ∀ q, q < H.size → A1 q → A0 q) (hf : ∀ q, free q → A0 q) (hAX : ∀ q, q < H.size → AX q → A0 q)
    (kx : ∀ (E : String) (ce : Cell) (q9 : Addr) (u : SX) (t : State) (H1 : Heap) (locs1 : List Loc), t.heap = H1 → s.vm.Alike t.vm → px u → BX E u t → H.size ≤ H1.size → (∀ q : Nat, q < H.size → ¬ AX q → H1[q]? = H[q]?) → va_S A0 H0 H1 locs1 → H1[q9]? = some ce → ce.vm = .none → s.vm.findClass E = some ce.cls → vx_W p l e R s m args below meth c H1 locs1 (cells + mc) (slots + ms) Q (F0 m pc ls rest) q9)
    (kk : ∀ (r : UInt64) (u : S) (t : State) (H1 : Heap) (locs1 : List Loc), t.heap = H1 → s.vm.Alike t.vm → post r u → B u t → H.size ≤ H1.size → (∀ q : Nat, q < H.size → ¬ A1 q → H1[q]? = H[q]?) → va_S A0 H0 H1 locs1 → W p l e R s m args below meth c H1 locs1 (cells + mc) (slots + ms) Q (F0 m (pc + 3) ls (.double r :: rest))) : W p l e R s m args below meth c H locs cells slots Q (F0 m pc ls st0) := by
  intro T hT X
  rcases hr T hT X with ⟨v, st₀, t, T', L, h0, X', hL, e1, e2, ⟨⟨r, u, hv, hp, hb⟩, hF⟩, st⟩ | ⟨q, st₀, t, T', L, E, ce, h0, X', hL, e1, e2, ⟨u, hp, hb, hF⟩, hce, hcv, hcl, st⟩
  · cases hv
    obtain ⟨k1, k2, k3⟩ := vx_keep h0 e1 hS hA hf hL hF
    obtain ⟨t2, a1, b1⟩ := kk r u t T'.heap (locs ++ L) e1.symm (by rw [← e2]; exact X'.warmed.alike) hp hb k1 k2 k3 T' rfl X'
    exact ⟨t2, st t2 a1, b1⟩
  · obtain ⟨k1, k2, k3⟩ := vx_keep h0 e1 hS hAX hf hL hF
    obtain ⟨t2, a1, b1⟩ := kx E ce q u t T'.heap (locs ++ L) e1.symm (by rw [← e2]; exact X'.warmed.alike) hp hb k1 k2 k3 (by rw [e1]; exact hce) hcv hcl T' rfl X'
    exact ⟨t2, st.trans a1, b1⟩
theorem vx_callv {S SX : Type} {post : S → Prop} {px : SX → Prop} {B : S → State → Prop} {BX : String → SX → State → Prop} {AX : Nat → Prop} (hr : vx_Run p l e R s m args below meth c H locs cells slots mc ms (F0 m pc ls st0) rest (va_Qv post B A1 a) (vx_X px BX AX) free) (hS : va_S A0 H0 H locs) (hA : ∀ q, q < H.size → A1 q → A0 q) (hf : ∀ q, free q → A0 q) (hAX : ∀ q, q < H.size → AX q → A0 q)
    (kx : ∀ (E : String) (ce : Cell) (q9 : Addr) (u : SX) (t : State) (H1 : Heap) (locs1 : List Loc), t.heap = H1 → s.vm.Alike t.vm → px u → BX E u t → H.size ≤ H1.size → (∀ q : Nat, q < H.size → ¬ AX q → H1[q]? = H[q]?) → va_S A0 H0 H1 locs1 → H1[q9]? = some ce → ce.vm = .none → s.vm.findClass E = some ce.cls → vx_W p l e R s m args below meth c H1 locs1 (cells + mc) (slots + ms) Q (F0 m pc ls rest) q9)
    (kk : ∀ (u : S) (t : State) (H1 : Heap) (locs1 : List Loc), t.heap = H1 → s.vm.Alike t.vm → post u → B u t → H.size ≤ H1.size → (∀ q : Nat, q < H.size → ¬ A1 q → H1[q]? = H[q]?) → va_S A0 H0 H1 locs1 → W p l e R s m args below meth c H1 locs1 (cells + mc) (slots + ms) Q (F0 m (pc + 3) ls (rest))) : W p l e R s m args below meth c H locs cells slots Q (F0 m pc ls st0) := by
  intro T hT X
  rcases hr T hT X with ⟨v, st₀, t, T', L, h0, X', hL, e1, e2, ⟨⟨u, hv, hp, hb⟩, hF⟩, st⟩ | ⟨q, st₀, t, T', L, E, ce, h0, X', hL, e1, e2, ⟨u, hp, hb, hF⟩, hce, hcv, hcl, st⟩
  · cases hv
    obtain ⟨k1, k2, k3⟩ := vx_keep h0 e1 hS hA hf hL hF
    obtain ⟨t2, a1, b1⟩ := kk u t T'.heap (locs ++ L) e1.symm (by rw [← e2]; exact X'.warmed.alike) hp hb k1 k2 k3 T' rfl X'
    exact ⟨t2, st t2 a1, b1⟩
  · obtain ⟨k1, k2, k3⟩ := vx_keep h0 e1 hS hAX hf hL hF
    obtain ⟨t2, a1, b1⟩ := kx E ce q u t T'.heap (locs ++ L) e1.symm (by rw [← e2]; exact X'.warmed.alike) hp hb k1 k2 k3 (by rw [e1]; exact hce) hcv hcl T' rfl X'
    exact ⟨t2, st.trans a1, b1⟩
/-- caught by the row x of this method's table; the rows ahead don't take it -/
theorem vx_catch {own name : String} {E : String} {ce : Cell} {q : Addr} (hown : s.vm.findClass own = some m.cls) (pre : List ExceptionTableEntry) (x : ExceptionTableEntry) (suf : List ExceptionTableEntry) (hsplit : c.exceptionTable.toList = pre ++ x :: suf)
    (hpass : ∀ z ∈ pre, covers z pc = false ∨ (z.catchType ≠ 0 ∧ ∃ nm : String, (Cond.classLink own z.catchType nm).before args s = true ∧ va_Nc E nm s)) (hx : covers x pc = true) (h0 : x.catchType ≠ 0)
    (hlink : (Cond.classLink own x.catchType name).before args s = true) (hcast : (Cond.castable E name).before args s = true) (hcell : H[q]? = some ce) (hv : ce.vm = .none) (hcl : s.vm.findClass E = some ce.cls)
    (kk : W p l e R s m args below meth c H locs cells slots Q (F0 m x.handlerPc ls [.ref q])) : vx_W p l e R s m args below meth c H locs cells slots Q (F0 m pc ls rest) q := by
  intro T hT X
  have hpl : e.platform.magicAccessors = ({} : Platform).magicAccessors := by rw [X.admits.platform]
  obtain ⟨c3, c4, hc3, hc4, hasg⟩ := Cond.castable_spec hcast
  cases Option.some.inj (hc3.symm.trans hcl)
  obtain ⟨c5, hc5, hcl5⟩ := Cond.classLink_spec hown hlink e.platform hpl
  cases Option.some.inj (hc4.symm.trans hc5)
  obtain ⟨vm', X', st⟩ := rc_through X q (g := F0 m pc ls rest) rfl (by rw [hT]; exact hcell) (by rw [hv]; intro k; simp) (by obtain ⟨k9, h9, -⟩ := Vm.findClass_spec hcl; exact ⟨k9, h9⟩) pre x suf hsplit
    (fun z hz => by
      rcases hpass z hz with h | ⟨hz0, nm, hl1, hn1⟩
      · exact Or.inl h
      · obtain ⟨c6, hc6, hcl6⟩ := Cond.classLink_spec hown hl1 e.platform hpl
        obtain ⟨a8, b8, h1, h2, h3⟩ := hn1
        cases Option.some.inj (h1.symm.trans hcl)
        cases Option.some.inj (h2.symm.trans hc6)
        exact Or.inr ⟨hz0, _, hcl6, h3⟩) hx h0 hcl5 hasg
  obtain ⟨t, a1, b1⟩ := kk (T.setVm vm') hT X'
  exact ⟨t, st t a1, b1⟩
end Rows
section Ends
variable {p : Program} {l : Launch} {e : Env} {R : Room} {s : State} {m : MethodId} {args : Array Value} {below : List Frame} {meth : Method} {c : Code} {H : Heap} {locs : List Loc} {cells slots : Nat} {Q : State → Prop}
variable {mc ms : Nat} {free : Addr → Prop} {A0 A1 : Nat → Prop} {H0 : Heap} {a : Array Value} {ls : Array Slot} {st0 rest : List Value}
variable {Qc : Array Value → State → Outcome → State → Prop} {XC : String → State → State → Prop}
/-- what a body that may throw owes at its end -/
def vx_MQ (below : List Frame) (Qc : Array Value → State → Outcome → State → Prop) (XC : String → State → State → Prop) (a : Array Value) (s : State) (mc ms : Nat) (free : Addr → Prop) : State → Prop := fun t =>
  ∃ o, t.status = .running ∧ Ended t below o ∧ vx_Q Qc XC mc ms free a s o t
theorem vx_ret {g : JFrame} {mc ms : Nat} (k : W p l e R s m args below meth c H locs cells slots (MQ below Qc args s mc ms free) g) : W p l e R s m args below meth c H locs cells slots (vx_MQ below Qc XC args s mc ms free) g := by
  intro T hT X
  obtain ⟨t, a1, o, b1, b2, b3, b4⟩ := k T hT X
  exact ⟨t, a1, o, b1, b2, Or.inl ⟨b3, b4⟩⟩
/-- not caught here: it goes on to the caller -/
theorem vx_widen {g : JFrame} {q : Addr} {k n : Nat} (h1 : cells ≤ k) (h2 : slots ≤ n) (kk : vx_W p l e R s m args below meth c H locs k n Q g q) : vx_W p l e R s m args below meth c H locs cells slots Q g q := fun T hT X => kk T hT (stand_widen X h1 h2)
theorem vx_out {pc : Nat} {E : String} {ce : Cell} {q : Addr} {mc ms : Nat} (hout : ∀ x ∈ c.exceptionTable.toList, covers x pc = false) (hlocks : meth.locks = false) (hcell : H[q]? = some ce) (hv : ce.vm = .none) (hcl : s.vm.findClass E = some ce.cls)
    (hx : ∀ t : State, t.heap = H → s.vm.Alike t.vm → XC E s t) (hf : ∀ z ∈ locs, free z.base) (hc : cells ≤ mc) (hs : slots ≤ ms) :
    vx_W p l e R s m args below meth c H locs cells slots (vx_MQ below Qc XC args s mc ms free) (F0 m pc ls rest) q := by
  intro T hT X
  obtain ⟨st1, hrun, hend, hW, hsm⟩ := X.leaveThrown q (g := F0 m pc ls rest) rfl rfl rfl hout hlocks
  have hcell9 : (T.setFrames (.throwing q :: below)).heap[q]? = some ce := by
    show T.heap[q]? = some ce
    rw [hT]; exact hcell
  exact ⟨_, st1, .threw q, hrun, hend, Or.inr ⟨q, rfl, E, ce, locs, hx _ hT hW.alike, hcell9, hv, hcl, hW, hsm.mono hc hs, hf⟩⟩
theorem vx_frame {U : State} {k n : Nat} (h : s.sameButNew ({ U with vm := s.vm } : State) locs k n) : s.heap.size ≤ U.heap.size ∧ ∀ q : Nat, q < s.heap.size → (∀ z ∈ locs, z.base ≠ q) → U.heap[q]? = s.heap[q]? := by
  obtain ⟨-, h2, -, -, -, h6⟩ := h
  refine ⟨h2, fun q hq hz => ?_⟩
  obtain ⟨c9, e1, e2, e3, e4⟩ := h6 q _ (Array.getElem?_eq_getElem hq)
  have hs : c9.slots = (s.heap[q]).slots := Array.ext_getElem? fun i => e4 i fun hm => hz _ hm rfl
  have h9 : c9 = s.heap[q] := by
    rw [hs] at e2
    exact e2
  have e5 : U.heap[q]? = some c9 := e1
  rw [e5, h9, Array.getElem?_eq_getElem hq]
/-- the words of a throw but the four that speak of the heap -/
def vx_no (w : Cond) : Bool := decide (w ≠ .isRef (.static Bundle.tN "UNASSIGNED_STACK" Bundle.steD)) && decide (w ≠ .isRef (.static Bundle.tN "SUPPRESSED_SENTINEL" Bundle.listD)) && decide (w ≠ .laysStatic Bundle.tN "UNASSIGNED_STACK" Bundle.steD) && decide (w ≠ .laysStatic Bundle.tN "SUPPRESSED_SENTINEL" Bundle.listD)
def vx_at0 (own : String) (ic : Nat) (X : String) (names : List String) : List Cond := (Bundle.ownAtoms0 own ic X names).filter vx_no
/-- a word that the tables alone decide, or a good one -/
def vx_ot (w : Cond) : Bool := w.onTables || goodWord w
theorem vx_ot_at {args a' : Array Value} {s U : State} {w : Cond} (hW : s.WarmedH U.vm) (hvm : s.vm = U.vm) (hg : vx_ot w = true) (h : w.before args s = true) : w.before a' U = true := by
  simp only [vx_ot, Bool.or_eq_true] at hg
  rcases hg with hg | hg
  · exact va_tabs hg hvm h
  · exact word_at hW (good_of_word hg) h
/-- a list's words: the good ones out of the method's own list, the others by premises of their own -/
theorem vx_hat {args : Array Value} {s : State} {L B : List Cond} (h1 : ∀ w ∈ L.filter goodWord, w.before args s = true) (h2 : ∀ w ∈ L.filter (fun w => !goodWord w), w ∈ B) (h3 : ∀ w ∈ B, w.before args s = true) : ∀ w ∈ L, w.before args s = true := by
  intro w hw
  by_cases g : goodWord w = true
  · exact h1 w (List.mem_filter.mpr ⟨hw, g⟩)
  · refine h3 w (h2 w (List.mem_filter.mpr ⟨hw, ?_⟩))
    show (!goodWord w) = true
    cases hgw : goodWord w
    · rfl
    · exact absurd hgw g
theorem vx_c {args : Array Value} {s : State} {w : Cond} {B : List Cond} (h : w.before args s = true) (t : ∀ w ∈ B, w.before args s = true) : ∀ w' ∈ w :: B, w'.before args s = true := fun w' h' => (List.mem_cons.mp h').elim (fun e => by rw [e]; exact h) (t w')
theorem vx_n {args : Array Value} {s : State} : ∀ w ∈ ([] : List Cond), w.before args s = true := fun _ h => nomatch h
theorem vx_own {args : Array Value} {s : State} {L : List Cond} (h1 : ∀ w ∈ L.filter vx_no, w.before args s = true)
    (hU : (Cond.isRef (.static Bundle.tN "UNASSIGNED_STACK" Bundle.steD)).before args s = true) (hN : (Cond.isRef (.static Bundle.tN "SUPPRESSED_SENTINEL" Bundle.listD)).before args s = true)
    (lU : (Cond.laysStatic Bundle.tN "UNASSIGNED_STACK" Bundle.steD).before args s = true) (lN : (Cond.laysStatic Bundle.tN "SUPPRESSED_SENTINEL" Bundle.listD).before args s = true) : ∀ w ∈ L, w.before args s = true := by
  intro w hw
  by_cases e1 : w = .isRef (.static Bundle.tN "UNASSIGNED_STACK" Bundle.steD)
  · rw [e1]; exact hU
  · by_cases e2 : w = .isRef (.static Bundle.tN "SUPPRESSED_SENTINEL" Bundle.listD)
    · rw [e2]; exact hN
    · by_cases e3 : w = .laysStatic Bundle.tN "UNASSIGNED_STACK" Bundle.steD
      · rw [e3]; exact lU
      · by_cases e4 : w = .laysStatic Bundle.tN "SUPPRESSED_SENTINEL" Bundle.listD
        · rw [e4]; exact lN
        · exact h1 w (List.mem_filter.mpr ⟨hw, by unfold vx_no; rw [decide_eq_true e1, decide_eq_true e2, decide_eq_true e3, decide_eq_true e4]; rfl⟩)
/-- where a static field lies, its class's statics cell in H -/
def vx_L (C n d : String) (A : Nat → Prop) (U : State) (H : Heap) : Prop := ∃ (c : ClassId) (k : Class) (i : Nat) (f : Field) (a : Nat) (cell : Cell), U.vm.findClass C = some c ∧ U.fieldFound? C n d = some (c, k, i, f) ∧ f.isStatic = true ∧ k.statics = some a ∧ H[a]? = some cell ∧ cell.vm.isStatics = true ∧ cell.cls = c ∧ f.slot < cell.slots.size ∧ k.staticTypes[f.slot]? = some f.type ∧ ¬ A a
theorem vx_L.moved {C n d : String} {A : Nat → Prop} {u U : State} {H : Heap} (hvm : u.vm.Alike U.vm) (h : vx_L C n d A u H) : vx_L C n d A U H := by
  obtain ⟨c, k, i, f, a, cell, h1, h2, h3, h4, h5, h6, h7, h8, h9, h10⟩ := h
  obtain ⟨k', hi', he⟩ := State.fieldFound?_setVm hvm h2
  exact ⟨c, k', i, f, a, cell, by rw [hvm.findClass]; exact h1, hi', h3, by rw [he]; exact h4, h5, h6, h7, h8, by rw [he]; exact h9, h10⟩
theorem vx_L.kept {C n d : String} {A : Nat → Prop} {U : State} {H H1 : Heap} (h : vx_L C n d A U H) (hq : ∀ a : Nat, a < H.size → ¬ A a → H1[a]? = H[a]?) : vx_L C n d A U H1 := by
  obtain ⟨c, k, i, f, a, cell, h1, h2, h3, h4, h5, h6, h7, h8, h9, h10⟩ := h
  exact ⟨c, k, i, f, a, cell, h1, h2, h3, h4, by rw [hq a (Array.getElem?_eq_some_iff.mp h5).1 h10]; exact h5, h6, h7, h8, h9, h10⟩
theorem vx_L.narrow {C n d : String} {A B : Nat → Prop} {U : State} {H : Heap} (h : vx_L C n d A U H) (hAB : ∀ q, B q → A q) : vx_L C n d B U H := by
  obtain ⟨c, k, i, f, a, cell, h1, h2, h3, h4, h5, h6, h7, h8, h9, h10⟩ := h
  exact ⟨c, k, i, f, a, cell, h1, h2, h3, h4, h5, h6, h7, h8, h9, fun z => h10 (hAB _ z)⟩
theorem vx_L.word {C n d : String} {A : Nat → Prop} {s : State} {args : Array Value} (h : vx_L C n d A s s.heap) : (Cond.laysStatic C n d).before args s = true := by
  obtain ⟨c, k, i, f, a, cell, h1, h2, h3, h4, h5, h6, h7, h8, h9, -⟩ := h
  show (Cond.laysStatic C n d).holds args s none s [] = true
  exact Cond.laysStatic_of h1 h2 h3 h4 h5 h6 h7 h8 h9
/-- .. and what it holds: null or some reference -/
def vx_Zq (C n d : String) (A : Nat → Prop) (U : State) (H : Heap) : Prop := va_Zq C n d A U H ∧ vx_L C n d A U H
theorem vx_Zq.moved {C n d : String} {A : Nat → Prop} {u U : State} {H : Heap} (hvm : u.vm.Alike U.vm) (h : vx_Zq C n d A u H) : vx_Zq C n d A U H := ⟨va_Zq.moved hvm h.1, vx_L.moved hvm h.2⟩
theorem vx_Zq.kept {C n d : String} {A : Nat → Prop} {U : State} {H H1 : Heap} (h : vx_Zq C n d A U H) (hq : ∀ a : Nat, a < H.size → ¬ A a → H1[a]? = H[a]?) : vx_Zq C n d A U H1 := ⟨va_Zq.kept h.1 hq, vx_L.kept h.2 hq⟩
theorem vx_Zq.narrow {C n d : String} {A B : Nat → Prop} {U : State} {H : Heap} (h : vx_Zq C n d A U H) (hAB : ∀ q, B q → A q) : vx_Zq C n d B U H := ⟨va_Zq.narrow h.1 hAB, vx_L.narrow h.2 hAB⟩
theorem vx_Zqof {args : Array Value} {s : State} {C n d : String} {A : Nat → Prop} (hl : (Cond.laysStatic C n d).before args s = true) (hini : (Cond.initialized C).before args s = true) (h : (Cond.isRef (.static C n d)).before args s = true) (hA : ∀ a : Nat, a < s.heap.size → ¬ A a) : vx_Zq C n d A s s.heap := by
  refine ⟨va_Zqof hl hini h hA, ?_⟩
  obtain ⟨c, k, i, f, a, cell, h1, h2, h3, h4, h5, h6, h7, h8, h9⟩ := Cond.laysStatic_spec hl
  exact ⟨c, k, i, f, a, cell, h1, h2, h3, h4, h5, h6, h7, h8, h9, hA a (Array.getElem?_eq_some_iff.mp h5).1⟩
theorem vx_isRef {C n d : String} {v : Value} {A : Nat → Prop} {s : State} {args : Array Value} (h : va_Z C n d v A s s.heap) (hv : v.isRef = true) : (Cond.isRef (.static C n d)).before args s = true := by
  obtain ⟨cf, kf, fi, f, a, cell, h1, h2, h3, h4, h5, h6, h7, -⟩ := h
  have he : (Term.static C n d).eval args s none [] s = some v := by
    simp [Term.eval, State.fieldNamed?, h1, h2, h4, h5, h6, h7]
  simp only [Cond.before, Cond.holds, Cond.value, he]
  cases v <;> simp_all [Value.isRef]
theorem vx_isRefq {C n d : String} {A : Nat → Prop} {s : State} {args : Array Value} (h : va_Zq C n d A s s.heap) : (Cond.isRef (.static C n d)).before args s = true := by
  rcases h with h | ⟨t, h⟩
  · exact vx_isRef h rfl
  · exact vx_isRef h rfl
/-- the same frame, seen from here: as if the method were called anew in this heap -/
theorem vx_rebase {T : State} (X : Stand p l e R s m args below meth c T locs cells slots) {R' : Room} (hf : R'.frames ≤ R.frames) (hl : R'.locals ≤ R.locals) (hc : cells + R'.cells ≤ R.cells) (hs : slots + R'.slots ≤ R.slots) :
    Stand p l e R' ((T.setVm s.vm).setFrames (.invoking m args :: below)) m args below meth c T [] 0 0 := by
  have htop : (T.setVm s.vm).topJava?.isSome := X.here.top
  have hF : ((T.setVm s.vm).setFrames (.invoking m args :: below)).frames = .invoking m args :: below := State.frames_setFrames _ (State.cur_lt_of_top htop)
  obtain ⟨g₀, hg0⟩ := Option.isSome_iff_exists.mp htop
  obtain ⟨r, hr⟩ := State.topJava?_eq_some.mp hg0
  have hl9 : e.platform.stackLimits (T.setVm s.vm).me = e.platform.stackLimits s.me := X.limits
  have hb9 : (T.setVm s.vm).me.stackBytes = s.me.stackBytes := X.bytes
  refine ⟨X.admits, X.cas, X.clock, hF, ?_, X.hears, X.method, X.code, X.here, X.tail, X.warmed, ?_, ?_, ?_⟩
  · have h := X.room
    have hU : ((T.setVm s.vm).setFrames (.invoking m args :: below)).localsInUse = s.localsInUse := by
      rw [State.localsInUse_invoking hF (meth := meth) (c := c) X.method X.code, State.localsInUse_invoking X.frames X.method X.code]
    simp only [State.hasRoom, Bool.and_eq_true, decide_eq_true_eq] at h ⊢
    obtain ⟨⟨⟨⟨h1, h2, h3, h4, h5, h6⟩, h7⟩, h8⟩, h9⟩ := h
    rw [X.frames, List.length_cons] at h2 h3
    have q1 := X.heapSize
    have q2 := X.used
    simp only [hF, hU, List.length_cons, State.stackLimits_setFrames, State.stackBytes_setFrames, hl9, hb9]
    refine ⟨⟨⟨⟨by omega, by omega, by omega, by omega, by omega, h6⟩, ?_⟩, ?_⟩, X.book⟩
    · show T.heap.size + R'.cells ≤ e.platform.maxCells
      omega
    · show T.slotsUsed + R'.slots ≤ e.platform.maxSlots
      omega
  · rw [State.stackLimits_setFrames]; rfl
  · rw [State.stackBytes_setFrames]; rfl
  · refine ⟨?_, Nat.le_refl _, Nat.le_refl _, ?_, ?_, fun a c9 h9 => ⟨c9, h9, rfl, rfl, fun _ _ => rfl⟩⟩
    · obtain ⟨t, ht, -⟩ := State.frames_cons hr
      show T.setVm s.vm = { ((T.setVm s.vm).setFrames (.invoking m args :: below)).setFrames (T.setVm s.vm).frames with heap := T.heap, slotsUsed := T.slotsUsed }
      rw [State.setFrames_setFrames, State.setFrames_self ht]
      rfl
    · show T.slotsUsed = T.slotsUsed + ((T.heap.toList.drop T.heap.size).map (·.slots.size)).sum
      rw [List.drop_eq_nil_of_le (Nat.le_of_eq Array.length_toList)]
      rfl
    · show ((T.heap.toList.drop T.heap.size).map (·.slots.size)).sum ≤ 0
      rw [List.drop_eq_nil_of_le (Nat.le_of_eq Array.length_toList)]
      exact Nat.le_refl _
/-- 'throw new E()': new; dup; invokespecial; athrow -/
theorem vx_throw0 {cc : ByteArray} {pc : Nat} (hexec : p.tables.exec = Jvm.exec) (hb : c.code = cc) (hl : l.stackTraces = false) {own cls : String} {names : List String} {ik ic mc ms : Nat} {A : Nat → Prop}
    (hown : s.vm.findClass own = some m.cls) (hcls : Bundle.fit cls = true) (hnames : ∀ n ∈ names, Bundle.fit n = true)
    (hk : (Cond.classLink own ik cls).before args s = true) (hini : (Cond.initialized cls).before args s = true) (hat : ∀ w ∈ vx_at0 own ic cls names, w.before args s = true)
    (hgood : ∀ w ∈ Cond.classLink own ik cls :: Cond.initialized cls :: vx_at0 own ic cls names, vx_ot w = true)
    (hU : vx_Zq Bundle.tN "UNASSIGNED_STACK" Bundle.steD A s s.heap) (hN : vx_Zq Bundle.tN "SUPPRESSED_SENTINEL" Bundle.listD A s s.heap) (hS : va_S A s.heap H locs) (hsize : ls.size = c.maxLocals)
    (d0 : decode cc pc = .ok (.new ik, 3)) (d3 : decode cc (pc + 3) = .ok (.dup, 1)) (d4 : decode cc (pc + 4) = .ok (.invokespecial ic, 3)) (d7 : decode cc (pc + 7) = .ok (.athrow, 1))
    (hout : ∀ x ∈ c.exceptionTable.toList, covers x (pc + 7) = false)
    (hRframes : names.length + 3 < R.frames) (hRlocals : (rest.map fun v => v.category).sum + (13 * (names.length + 1) + 42) ≤ R.locals) (hRcells : cells + 1 ≤ R.cells) (hRslots : slots + 6 ≤ R.slots) (hlocks : meth.locks = false)
    (hx : ∀ t : State, s.vm.Alike t.vm → H.size ≤ t.heap.size → (∀ q : Nat, q < H.size → t.heap[q]? = H[q]?) → XC cls s t)
    (hf : ∀ z ∈ locs, free z.base) (hc : cells + 1 ≤ mc) (hs : slots + 6 ≤ ms) :
    W p l e R s m args below meth c H locs cells slots (vx_MQ below Qc XC args s mc ms free) (F0 m pc ls rest) := by
  intro T hT X
  have htr : e.platform.stackTraces = false := (show e.platform.stackTraces = l.stackTraces by rw [X.admits.platform]).trans hl
  have Y := vx_rebase X (R' := { frames := R.frames, locals := R.locals, cells := 1, slots := 6 }) (Nat.le_refl _) (Nat.le_refl _) hRcells hRslots
  obtain ⟨s', hA⟩ : ∃ z, z = (T.setVm s.vm).setFrames (.invoking m args :: below) := ⟨_, rfl⟩
  rw [← hA] at Y
  have hvm : s'.vm = s.vm := by rw [hA]; rfl
  have hhp : s'.heap = H := by rw [hA]; exact hT
  have hW0 : s.WarmedH s'.vm := by rw [hvm]; exact State.WarmedH.refl s
  have hat' : ∀ w ∈ vx_at0 own ic cls names, w.before args s' = true := fun w hw => vx_ot_at hW0 hvm.symm (hgood w (List.mem_cons_of_mem _ (List.mem_cons_of_mem _ hw))) (hat w hw)
  have hk' : (Cond.classLink own ik cls).before args s' = true := vx_ot_at hW0 hvm.symm (hgood _ List.mem_cons_self) hk
  have hini' : (Cond.initialized cls).before args s' = true := vx_ot_at hW0 hvm.symm (hgood _ (List.mem_cons_of_mem _ List.mem_cons_self)) hini
  have hU' : vx_Zq Bundle.tN "UNASSIGNED_STACK" Bundle.steD A s' s'.heap := by rw [hhp]; exact vx_Zq.moved hW0.alike (hU.kept hS.2.1)
  have hN' : vx_Zq Bundle.tN "SUPPRESSED_SENTINEL" Bundle.listD A s' s'.heap := by rw [hhp]; exact vx_Zq.moved hW0.alike (hN.kept hS.2.1)
  have h : ∀ w ∈ Bundle.ownAtoms0 own ic cls names, w.before args s' = true := vx_own hat' (vx_isRefq hU'.1) (vx_isRefq hN'.1) hU'.2.word hN'.2.word
  have hown' : s'.vm.findClass own = some m.cls := by rw [hvm]; exact hown
  have hins : (Cond.instantiable cls 6).before args s' = true := h _ (by simp [Bundle.ownAtoms0])
  obtain ⟨vm₁, cX, kX, hfX, hkX, -, -, X₁, st1⟩ := Y.newCold hexec (own := own) (C := cls) (index := ik) (n := 6) hown' hk' hins hini'
    (g := F0 m pc ls rest) rfl (by rw [hb]; exact d0) (Nat.le_refl _) (Nat.le_refl _)
  generalize hT1 : (T.setVm vm₁).pushCell { cls := cX, slots := kX.instanceTypes.map defaultValue, vm := .none } = T1 at X₁ st1
  have hcat : (Value.ref T.heap.size).category = 1 := rfl
  have hcellA : T1.heap[T.heap.size]? = some (freshCell cX kX) := by rw [← hT1]; exact State.heap_pushCell_size _ _
  have d3' : decode c.code (pc + 3) = .ok (.dup, 1) := by rw [hb]; exact d3
  obtain ⟨U, hsteps, hrun, hend, hW, hsame, ce, hce, hO⟩ := X₁.ctorThrow0 hexec htr (own := own) (cls := cls) (names := names) (ic := ic) hown' hcls hnames h (fun x hx => nomatch hx) hfX hkX hcellA (by rw [hhp, hT]; exact Nat.le_refl _)
    (g := { method := m, pc := pc + 4, locals := ls, stack := .ref T.heap.size :: .ref T.heap.size :: rest, locked := none }) rfl hsize rfl rfl (rest := rest) rfl
    (by rw [hb]; exact d4) (by rw [hb]; exact d7) hout hRframes (by simp only [List.map_cons, List.sum_cons, hcat]; omega) hlocks
  obtain ⟨f1, f2⟩ := vx_frame hsame
  rw [hhp] at f1 f2
  have hWs : s.WarmedH U.vm := State.WarmedH.trans hW0 hW
  have hcl : s.vm.findClass cls = some ce.cls := by
    have h9 := hO.cls
    rw [hvm] at h9
    exact h9
  have hall : s.sameButNew ({ U with vm := s.vm } : State) locs mc ms := by
    subst hA
    obtain ⟨e1, e2⟩ := hsame
    rw [State.setFrames_setFrames] at e1
    have h2 : (T.setVm s.vm).sameButNew ({ U with vm := s.vm } : State) [] (0 + 1) (0 + 6) := ⟨e1, e2⟩
    have h3 := X.same.trans h2
    rw [List.append_nil] at h3
    exact h3.mono hc hs
  refine ⟨U, ?_, .threw T.heap.size, hrun, hend, Or.inr ⟨T.heap.size, rfl, cls, ce, locs, hx U hWs.alike f1 (fun q hq => f2 q hq (fun z hz => nomatch hz)), hce, hO.vm, hcl, hWs, hall, hf⟩⟩
  refine st1 _ ?_
  show Steps p.tables e below (T1.setTop { method := m, pc := pc + 3, locals := ls, stack := .ref T.heap.size :: rest, locked := none }) _
  jvm_step X₁.here [X₁.here.top, hexec, d3', Value.category]
  exact hsteps
end Ends
section Bodies
variable {l : Launch}
theorem vx_ofW {y : MethodName} {ws ws' : List Cond} {rm : Room} {Pc : Array Value → State → Prop} {Qc : Array Value → State → Outcome → State → Prop} {XC : String → State → State → Prop} {mc ms : Nat} {free : Addr → Prop} {cc : ByteArray} {maxL : Nat} {ret : Option FieldType}
    (hy : plainName y.cls = true) (hw : ws = Cond.code y cc maxL ret :: ws')
    (body : ∀ p e s m args below meth c s₁, BodyLoose p l y (headSpec ws rm) cc maxL ret e s m args below meth c s₁ → c.maxLocals = maxL → (∀ x ∈ c.exceptionTable.toList, False) → Pc args s →
      W p l e (headSpec ws rm).room s m args below meth c s.heap [] 0 0 (vx_MQ below Qc XC args s mc ms free) (entryFrame m args maxL)) : vx_Met l y ws rm Pc Qc XC mc ms free := by
  refine MetFree.of_bodyS (code := cc) (maxLocals := maxL) (ret := ret) hy ?_ ?_
  · intro args s m h hn
    obtain ⟨meth, c, h1, h2, h3, h4, h5, h6, -, -⟩ := Cond.code_spec hn (atoms_spec (ws := ws) h _ (by rw [hw]; exact List.mem_cons_self))
    exact ⟨meth, c, h1, h2, h3, h4, h5, h6⟩
  · intro p e s m args below meth c s₁ B hml hP _
    have hh0 : s₁.heap = s.heap := by rw [B.state]; rfl
    have ht : ∀ x ∈ c.exceptionTable.toList, False := by
      obtain ⟨meth9, c9, h1, h2, -, -, -, -, h7, -⟩ := Cond.code_spec B.named (atoms_spec (ws := ws) B.pre _ (by rw [hw]; exact List.mem_cons_self))
      cases Option.some.inj (h1.symm.trans B.method)
      cases Option.some.inj (h2.symm.trans (Stand.of_body B).code)
      intro x hx
      rw [Array.isEmpty_iff.mp h7] at hx
      cases hx
    obtain ⟨t, a1, o, b1, b2, b3⟩ := body p e s m args below meth c s₁ B hml ht hP s₁ hh0 (Stand.of_body B)
    exact ⟨t, o, a1, b1, b2, b3⟩
/-- the table of a body with handlers -/
theorem vx_table {p : Program} {x y : MethodName} {S : Spec} {cc bytes : ByteArray} {maxL maxL' : Nat} {ret ret' : Option FieldType} {e : Env} {s s₁ : State} {m : MethodId} {args : Array Value} {below : List Frame} {meth : Method} {c : Code} {hh : List (Nat × Nat × Nat × Nat)}
    (B : BodyLoose p l y S cc maxL ret e s m args below meth c s₁) (h : (Cond.codeWith y bytes maxL' ret' hh).before args s = true) : c.exceptionTable.toList = tableOf hh := by
  obtain ⟨m9, meth9, c9, hn9, h1, h2, -, -, h6, -⟩ := Cond.codeWith_spec h
  cases Option.some.inj (hn9.symm.trans B.named)
  cases Option.some.inj (h1.symm.trans B.method)
  cases Option.some.inj (h2.symm.trans (Stand.of_body B).code)
  rw [← h6, table_eq]
end Bodies
end VXA
/-! ===== END ===== -/
/-! ===== BEGIN a static call of a method with an exception table ===== -/
section VXS
variable {p : Program} {l : Launch} {e : Env} {R : Room} {s : State} {m : MethodId} {args : Array Value} {below : List Frame} {meth : Method} {c : Code} {T : State} {H : Heap} {locs : List Loc} {cells slots : Nat}
abbrev vx_CSW (R : Room) (s : State) (args : Array Value) (own : String) (index : Nat) (y : MethodName) (bytes : ByteArray) (maxL : Nat) (ret : Option FieldType) (hh : List (Nat × Nat × Nat × Nat)) (ws : List Cond) (rm : Room) (mc ms n : Nat) : Prop :=
  (rm.cells = mc ∧ rm.slots = ms ∧ rm.frames + 1 ≤ R.frames ∧ 8 + (maxL + 11) + rm.locals ≤ R.locals ∧ (∀ w ∈ ws, ∀ (a' : Array Value) (U : State), s.WarmedH U.vm → w.before a' U = true) ∧ Cond.codeWith y bytes maxL ret hh ∈ ws) ∧
  (Cond.codeWith y bytes maxL ret hh).before args s = true ∧ (Cond.initialized y.cls).before args s = true ∧ (y.cls ≠ "java/lang/invoke/MethodHandle" ∧ y.cls ≠ "java/lang/invoke/VarHandle") ∧
  (∀ sig, parseMethodDescriptor y.desc = some sig → n = sig.parameters.length) ∧ (Cond.methodLink own index y).before args s = true ∧ (Cond.static y).before args s = true
theorem vx_cwSW {own : String} {index maxL mc ms : Nat} {y : MethodName} {bytes : ByteArray} {ret : Option FieldType} {hh : List (Nat × Nat × Nat × Nat)} {Ts ws ws' : List Cond} {rm : Room} (n : Nat) (ht : ∀ w ∈ Ts, w.before args s = true) (hT : GoodIn Ts (va_wsS own index y ws)) (hw : ws = Cond.codeWith y bytes maxL ret hh :: ws') (hrc : rm.cells = mc) (hrs : rm.slots = ms)
    (hd : y.cls ≠ "java/lang/invoke/MethodHandle" ∧ y.cls ≠ "java/lang/invoke/VarHandle" ∧ (parseMethodDescriptor y.desc).map (fun d => d.parameters.length) = some n) (hR : rm.frames + 1 ≤ R.frames ∧ 8 + (maxL + 11) + rm.locals ≤ R.locals) :
    vx_CSW R s args own index y bytes maxL ret hh ws rm mc ms n := by
  have ok : ∀ w ∈ va_wsS own index y ws, w.before args s = true := fun w h => ht w (hT w h).1
  have hG : GoodIn Ts ws := fun w h => hT w (by unfold va_wsS; exact List.mem_append_right _ h)
  have hc : Cond.codeWith y bytes maxL ret hh ∈ ws := by rw [hw]; exact List.mem_cons_self
  refine ⟨⟨hrc, hrs, hR.1, hR.2, pay_in ht hG, hc⟩, ht _ (hG _ hc).1, ok _ (by simp [va_wsS]), ⟨hd.1, hd.2.1⟩, fun sig h => ?_, ok _ (by simp [va_wsS]), ok _ (by simp [va_wsS])⟩
  have h2 := hd.2.2
  rw [h] at h2
  exact (Option.some.inj h2).symm
theorem vx_callSW (X : Stand p l e R s m args below meth c T locs cells slots) (hexec : p.tables.exec = Jvm.exec) {own : String} {index : Nat} {y : MethodName} {bytes : ByteArray} {maxL : Nat} {ret : Option FieldType} {hh : List (Nat × Nat × Nat × Nat)}
    (hown : s.vm.findClass own = some m.cls) (hlink : (Cond.methodLink own index y).before args s = true) (hstat : (Cond.static y).before args s = true) (hinit : (Cond.initialized y.cls).before args s = true)
    (hcode : (Cond.codeWith y bytes maxL ret hh).before args s = true) (hy : y.cls ≠ "java/lang/invoke/MethodHandle" ∧ y.cls ≠ "java/lang/invoke/VarHandle")
    {W9 : Nat} {Pre : Pt → Array Value → Prop} {Post : Pt → Array Value → Option Value → Pt → Prop} (hK : Back l R p e below s args y 3 W9 Pre Post)
    {g : JFrame} (hg : g.method = m) (hsize : g.locals.size = c.maxLocals) {argsL rest : List Value} (hlen : ∀ sig, parseMethodDescriptor y.desc = some sig → argsL.length = sig.parameters.length)
    (hstack : g.stack = argsL.reverse ++ rest) (hW : 2 * g.monitorRoom + (rest.map fun v => v.category).sum ≤ W9) (hdg : decode c.code g.pc = .ok (.invokestatic index, 3))
    (hpre : ∀ vm₁, s.WarmedH vm₁ → Pre ⟨T.setVm vm₁, locs, cells, slots⟩ argsL.toArray) :
    ∃ (v : Option Value) (vm₁ : Vm) (B : Pt), s.WarmedH vm₁ ∧ Stand p l e R s m args below meth c B.U B.locs B.cells B.slots ∧ Post ⟨T.setVm vm₁, locs, cells, slots⟩ argsL.toArray v B ∧
      ∀ target, Steps p.tables e below (B.U.setTop { g with pc := g.pc + 3, stack := v.toList ++ rest }) target → Steps p.tables e below (T.setTop g) target := by
  obtain ⟨mk, methM, cM, hnamed, hmethM, -, -, -, -, -, -, hsigM⟩ := Cond.codeWith_spec hcode
  have hstatic : methM.isStatic = true := Cond.static_spec hnamed hmethM hstat
  obtain ⟨kP, hkP, -⟩ := className_of_methodNamed hnamed
  have hinitP : kP.init = .initialized := Cond.initialized_spec (findClass_of_methodNamed hnamed) hkP hinit
  obtain ⟨vm₁, X₁, hstep₁⟩ := X.invokestatic hexec hown hlink hnamed hmethM hstatic hkP hinitP hy (g := g) hg (argsL := argsL) (rest := rest) (hlen _ hsigM) hstack hdg
  obtain ⟨v, B, X', hpost, hsteps⟩ := hK m meth c ⟨T.setVm vm₁, locs, cells, slots⟩ { g with stack := rest } (.invokestatic index) mk argsL.toArray X₁ hg hsize hdg hW (X₁.named hnamed) (hpre vm₁ X₁.warmed)
  exact ⟨v, vm₁, B, X₁.warmed, X', hpost, fun target h => hstep₁ _ fun acts => by rw [doInvoke_state]; exact hsteps.trans h⟩
theorem vx_runSW {y : MethodName} {bytes cc : ByteArray} {maxL nL mc ms n index : Nat} {ret : Option FieldType} {hh : List (Nat × Nat × Nat × Nat)} {ws : List Cond} {rm : Room} {Pc : Array Value → State → Prop} {Qc : Array Value → State → Outcome → State → Prop} {free : Addr → Prop} {Ts : List Cond} {own : String} {As rest : List Value} {g : JFrame}
    (S : CallFix p m c cc nL s args Ts own) (hM : Met l y ws rm Pc Qc mc ms free) (cw : vx_CSW R s args own index y bytes maxL ret hh ws rm mc ms n) (hp : PreS s H Pc As)
    (hg : g.method = m) (hn : As.length = n) (hsize : g.locals.size = nL) (hstack : g.stack = As.reverse ++ rest) (hW : 2 * g.monitorRoom + (rest.map fun v => v.category).sum ≤ 8) (hdg : decode cc g.pc = .ok (.invokestatic index, 3)) (hf : cells + mc ≤ R.cells ∧ slots + ms ≤ R.slots) :
    va_Run p l e R s m args below meth c H locs cells slots mc ms g rest (Qc As.toArray) (free) := by
  obtain ⟨⟨hrc, hrs, hfr, hlo, hws, hcw⟩, hcode, hini, hy, hlen, hl, hstt⟩ := cw
  have hK : Back l R p e below s args y 3 8 (PreOf R mc ms Pc) (PostOf Qc mc ms free) := va_backW (hh := hh) (bytes := bytes) (maxL := maxL) (ret := ret) hM hp.1 hrc hrs hfr hlo hws hcw (fun a' U hW => word_at hW (Or.inl (by first | rfl | simp [Cond.onTables, Cond.keeps, Cond.steady])) hini)
  obtain ⟨hx, hb, hml, ho, -⟩ := S
  intro T hT X
  obtain ⟨v, vm₁, ⟨U', l2, c2, s2⟩, hW₁, X', ⟨g', mk, t, L, e1, e2, hq, h1, hL, h2, h3⟩, st⟩ := vx_callSW X hx (hh := hh) (bytes := bytes) (maxL := maxL) (ret := ret) ho hl hstt hini hcode hy hK hg (hsize.trans hml.symm) (argsL := As) (rest := rest) (fun sig h => hn.trans (hlen sig h)) hstack hW (by rw [hb]; exact hdg)
    (fun vm₁ hW₁ => ⟨hf.1, hf.2, hp.2 (T.setVm vm₁) hT hW₁⟩)
  dsimp only [Pt.U, Pt.locs, Pt.cells, Pt.slots] at X' e1 e2 h1 h2 h3 st
  subst h1; subst h2; subst h3
  exact ⟨v, (T.setVm vm₁).calling g' mk As.toArray, t, U', L, hT, X', hL, e1, e2, hq, st⟩
/-- a thing of a world lies in the heap -/
theorem vx_lt {D : va_G} {cl : List vw_C} {ws : va_W} {H1 : Heap} (h : va_P D cl ws H1) {k : Nat} {q : Nat × va_E} (hk : ws[k]? = some q) : q.1 < H1.size := (h k q hk).lt
end VXS
/-! ===== END ===== -/
/-! ===== BEGIN methods with a table of their own: called by a name, returning or throwing ===== -/
section VXH
/-! vx_backW, vx_callVX, vx_callSX, vx_callVW, vx_runVW, vx_runVX, vx_runSX, vx_ofWH follow the same proofs as their sisters above (Free/Laws.lean, Shelf42/LK1.lean); vx_outP calls Shelf42/NT130.lean (outThrough). -/
section
variable {l : Launch} {R : Room} {p : Program} {e : Env} {below : List Frame} {s : State} {sargs : Array Value} {y : MethodName} {len W9 : Nat}
theorem vx_backW {ws : List Cond} {rm : Room} {Pc : Array Value → State → Prop} {Qc : Array Value → State → Outcome → State → Prop} {XC : String → State → State → Prop} {mc ms : Nat} {free : Addr → Prop} {bytes : ByteArray} {maxL : Nat} {ret : Option FieldType} {hh : List (Nat × Nat × Nat × Nat)}
    (hM : vx_Met l y ws rm Pc Qc XC mc ms free) (hblind : FrameBlind Pc) (hrc : rm.cells = mc) (hrs : rm.slots = ms)
    (hframes : rm.frames + 1 ≤ R.frames) (hlocals : W9 + (maxL + 11) + rm.locals ≤ R.locals)
    (hws : ∀ w ∈ ws, ∀ a' U, s.WarmedH U.vm → w.before a' U = true) (hcode : Cond.codeWith y bytes maxL ret hh ∈ ws) (hinit : ∀ a' U, s.WarmedH U.vm → (Cond.initialized y.cls).before a' U = true) :
    vx_Back l R p e below s sargs y len W9 (PreOf R mc ms Pc) (PostOf Qc mc ms free) (vx_Post XC mc ms free) := by
  intro m meth c A g ig mk a X hg hsize hdg hW hn hp
  have h1 : (headSpec ws rm).pre.before a A.U = true := atoms_intro fun w hw => hws w hw _ _ X.warmed
  have h2 : (Cond.codeWith y bytes maxL ret hh).before a A.U = true := hws _ hcode _ _ X.warmed
  have h3 : (Cond.initialized y.cls).before a A.U = true := hinit _ _ X.warmed
  have h4 : A.cells + (headSpec ws rm).room.cells ≤ R.cells := by rw [show (headSpec ws rm).room.cells = mc from hrc]; exact hp.1
  have h5 : A.slots + (headSpec ws rm).room.slots ≤ R.slots := by rw [show (headSpec ws rm).room.slots = ms from hrs]; exact hp.2.1
  have hPc : Pc a (A.U.calling g mk a) := hblind _ _ _ _ hp.2.2
  obtain ⟨U, Ls, c0, s0⟩ := A
  dsimp only [Pt.U, Pt.locs, Pt.cells, Pt.slots] at h1 h2 h3 h4 h5 X hn hPc ⊢
  obtain ⟨m9, methY, cY, hn9, hmY, hcY, -, hlY, -⟩ := Cond.codeWith_spec h2
  cases Option.some.inj (hn9.symm.trans hn)
  obtain ⟨kY, hkY, -⟩ := className_of_methodNamed hn
  have hinitY : kY.init = .initialized := Cond.initialized_spec (findClass_of_methodNamed hn) hkY h3
  have h : At U g.method c below := by rw [hg]; exact X.here
  have hlocals9 : W9 + (maxL + 11) + (headSpec ws rm).room.locals ≤ R.locals := hlocals
  have happ : (headSpec ws rm).appliesLoose y e.platform (U.calling g mk a) = true :=
    Spec.appliesLoose_calling (g := g) h hdg hn hkY hinitY
      (X.room_calling (g := g) (R' := (headSpec ws rm).room) hsize hmY hcY hframes (by rw [hlY]; omega) h4 h5) h1
  obtain ⟨mid, hmid⟩ := h.above
  have hfr : (U.setTop g).frames = (.java g :: mid) ++ below := by rw [State.frames_setTop' g h.top, hmid]; rfl
  obtain ⟨o, s₂, hsteps, -, hend, hq⟩ := Steps.callFree hM p X.admits X.cas X.clock (acts := []) hfr happ hPc trivial
  have hq' : vx_Q Qc XC mc ms free a (U.calling g mk a) o s₂ := hq
  rw [State.frames_setTop' g h.top] at hend
  obtain ⟨g₀, hg0⟩ := Option.isSome_iff_exists.mp h.top
  obtain ⟨r, hr⟩ := State.topJava?_eq_some.mp hg0
  have hr' : (({ U with heap := s₂.heap, slotsUsed := s₂.slotsUsed } : State).setVm s₂.vm).frames = .java g₀ :: r := hr
  rcases hq' with ⟨hqc, L, hfe, hL⟩ | ⟨q, rfl, E, ce, L, hx, hce, hcv, hcl, hW₂, hsm, hL⟩
  · obtain ⟨⟨v, rfl⟩, hW₂, e2, q2, q3, q4, q5, q6⟩ := id hfe
    have e3 : s₂ = ({ (U.calling g mk a).setFrames s₂.frames with heap := s₂.heap, slotsUsed := s₂.slotsUsed } : State).setVm s₂.vm := by
      have : s₂ = ({ s₂ with vm := (U.calling g mk a).vm } : State).setVm s₂.vm := rfl
      rw [e2] at this
      exact this
    obtain ⟨c₂, i₂, len₂, hc₂, hd₂, hf₂⟩ := hend
    have hW' : U.WarmedH s₂.vm := hW₂
    have hcc : c₂ = c := by
      have h1 : s₂.code? g.method = U.code? g.method := by
        rw [State.code?_eq, State.code?_eq, hW'.alike.method?]
      exact Option.some.inj (hc₂.symm.trans (h1.trans h.code))
    subst hcc
    have hlen : len₂ = len := by rw [hdg] at hd₂; cases hd₂; rfl
    subst hlen
    have hs₂ : s₂ = (({ U with heap := s₂.heap, slotsUsed := s₂.slotsUsed } : State).setVm s₂.vm).setTop { g with pc := g.pc + len₂, stack := v.toList ++ g.stack } := by
      refine e3.trans ?_
      rw [hf₂, State.calling_eq h.top, State.setFrames_setFrames, State.setTop_of_frames _ hr', hr]
      rfl
    have hsame : U.sameButNew ({ U with heap := s₂.heap, slotsUsed := s₂.slotsUsed } : State) L mc ms := by
      refine ⟨?_, q2, q3, q4, q5, q6⟩
      obtain ⟨t, ht, -⟩ := State.frames_cons hr
      show ({ U with heap := s₂.heap, slotsUsed := s₂.slotsUsed } : State) = { U.setFrames U.frames with heap := s₂.heap, slotsUsed := s₂.slotsUsed }
      rw [State.setFrames_self ht]
    subst hg
    refine Or.inl ⟨v, ⟨(({ U with heap := s₂.heap, slotsUsed := s₂.slotsUsed } : State).setVm s₂.vm), Ls ++ L, c0 + mc, s0 + ms⟩,
      ⟨X.admits, X.cas, X.clock, X.frames, X.room, X.hears, X.method, X.code, (X.here.setHeapUsed s₂.heap s₂.slotsUsed).setVm hW'.alike, X.tail, State.WarmedH.trans X.warmed hW', X.limits, X.bytes, X.same.trans (hsame.setVm s.vm)⟩,
      ⟨g, mk, s₂, L, rfl, rfl, hqc, rfl, hL, rfl, rfl⟩, ?_⟩
    show Steps p.tables e below _ ((({ U with heap := s₂.heap, slotsUsed := s₂.slotsUsed } : State).setVm s₂.vm).setTop { g with pc := g.pc + len₂, stack := v.toList ++ g.stack })
    rw [← hs₂]
    exact hsteps
  · obtain ⟨e2, q2, q3, q4, q5, q6⟩ := id hsm
    have e3 : s₂ = ({ (U.calling g mk a).setFrames s₂.frames with heap := s₂.heap, slotsUsed := s₂.slotsUsed } : State).setVm s₂.vm := by
      have : s₂ = ({ s₂ with vm := (U.calling g mk a).vm } : State).setVm s₂.vm := rfl
      rw [e2] at this
      exact this
    have hf₂ : s₂.frames = .throwing q :: .java g :: U.frames.tail := hend
    have hW' : U.WarmedH s₂.vm := hW₂
    have hs₂ : s₂ = ((({ U with heap := s₂.heap, slotsUsed := s₂.slotsUsed } : State).setVm s₂.vm).setTop g).pushFrame (.throwing q) := by
      refine e3.trans ?_
      rw [hf₂, State.calling_eq h.top, State.setFrames_setFrames, State.pushFrame, State.frames_setTop _ hr', State.setTop_of_frames _ hr', State.setFrames_setFrames, hr]
      rfl
    have hsame : U.sameButNew ({ U with heap := s₂.heap, slotsUsed := s₂.slotsUsed } : State) L mc ms := by
      refine ⟨?_, q2, q3, q4, q5, q6⟩
      obtain ⟨t, ht, -⟩ := State.frames_cons hr
      show ({ U with heap := s₂.heap, slotsUsed := s₂.slotsUsed } : State) = { U.setFrames U.frames with heap := s₂.heap, slotsUsed := s₂.slotsUsed }
      rw [State.setFrames_self ht]
    subst hg
    refine Or.inr ⟨q, ⟨(({ U with heap := s₂.heap, slotsUsed := s₂.slotsUsed } : State).setVm s₂.vm), Ls ++ L, c0 + mc, s0 + ms⟩,
      ⟨X.admits, X.cas, X.clock, X.frames, X.room, X.hears, X.method, X.code, (X.here.setHeapUsed s₂.heap s₂.slotsUsed).setVm hW'.alike, X.tail, State.WarmedH.trans X.warmed hW', X.limits, X.bytes, X.same.trans (hsame.setVm s.vm)⟩,
      ⟨g, mk, s₂, L, E, ce, rfl, rfl, hx, hce, hcv, hcl, rfl, hL, rfl, rfl⟩, ?_⟩
    show Steps p.tables e below _ (((({ U with heap := s₂.heap, slotsUsed := s₂.slotsUsed } : State).setVm s₂.vm).setTop g).pushFrame (.throwing q))
    rw [← hs₂]
    exact hsteps
end
variable {p : Program} {l : Launch} {e : Env} {R : Room} {s : State} {m : MethodId} {args : Array Value} {below : List Frame} {meth : Method} {c : Code} {T : State} {H : Heap} {locs : List Loc} {cells slots : Nat}
theorem vx_callVX (X : Stand p l e R s m args below meth c T locs cells slots) (hexec : p.tables.exec = Jvm.exec) {own C : String} {index : Nat} {y : MethodName} {bytes : ByteArray} {maxL : Nat} {ret : Option FieldType} {hh : List (Nat × Nat × Nat × Nat)}
    (hown : s.vm.findClass own = some m.cls) (hlink : (Cond.methodLink own index y).before args s = true) (hinst : (Cond.instanceMethod y).before args s = true) (hsel : (Cond.selects C y y).before args s = true)
    (hcode : (Cond.codeWith y bytes maxL ret hh).before args s = true) (hy : y.cls ≠ "java/lang/invoke/MethodHandle" ∧ y.cls ≠ "java/lang/invoke/VarHandle")
    {W9 : Nat} {Pre : Pt → Array Value → Prop} {Post : Pt → Array Value → Option Value → Pt → Prop} {PostX : Pt → Array Value → Addr → Pt → Prop} (hK : vx_Back l R p e below s args y 3 W9 Pre Post PostX)
    {b : Addr} {cellB : Cell} (hcell : T.heap[b]? = some cellB) (hobj : cellB.vm.isStatics = false) (hcls : s.vm.findClass C = some cellB.cls)
    {g : JFrame} (hg : g.method = m) (hsize : g.locals.size = c.maxLocals) {argsL rest : List Value} (hlen : ∀ sig, parseMethodDescriptor y.desc = some sig → argsL.length = sig.parameters.length)
    (hstack : g.stack = argsL.reverse ++ .ref b :: rest) (hW : 2 * g.monitorRoom + (rest.map fun v => v.category).sum ≤ W9) (hdg : decode c.code g.pc = .ok (.invokevirtual index, 3))
    (hpre : ∀ vm₁, s.WarmedH vm₁ → Pre ⟨T.setVm vm₁, locs, cells, slots⟩ (Value.ref b :: argsL).toArray) :
    (∃ (v : Option Value) (vm₁ : Vm) (B : Pt), s.WarmedH vm₁ ∧ Stand p l e R s m args below meth c B.U B.locs B.cells B.slots ∧ Post ⟨T.setVm vm₁, locs, cells, slots⟩ (Value.ref b :: argsL).toArray v B ∧
      ∀ target, Steps p.tables e below (B.U.setTop { g with pc := g.pc + 3, stack := v.toList ++ rest }) target → Steps p.tables e below (T.setTop g) target) ∨
    (∃ (q : Addr) (vm₁ : Vm) (B : Pt), s.WarmedH vm₁ ∧ Stand p l e R s m args below meth c B.U B.locs B.cells B.slots ∧ PostX ⟨T.setVm vm₁, locs, cells, slots⟩ (Value.ref b :: argsL).toArray q B ∧
      Steps p.tables e below (T.setTop g) ((B.U.setTop { g with stack := rest }).pushFrame (.throwing q))) := by
  obtain ⟨mk, methM, hnamed, hmethM, hstM, habM⟩ := Cond.instanceMethod_spec hinst
  obtain ⟨m8, methM', cM, hn8, hmethM', -, -, -, -, -, -, hsigM⟩ := Cond.codeWith_spec hcode
  cases Option.some.inj (hn8.symm.trans hnamed)
  cases hmethM.symm.trans hmethM'
  obtain ⟨c2, r2, m2, q1, q2, q3, q4, kP, hkP, hkPi⟩ := Cond.selects_spec hsel
  cases hcls.symm.trans q1
  cases (State.methodFound?_of_named hnamed hy).symm.trans q2
  cases hnamed.symm.trans q3
  have hselP : selectMethod e.platform s.vm cellB.cls mk = .method mk := by rw [Launch.admits_selectMethod X.admits]; exact q4
  obtain ⟨vm₁, X₁, hstep₁⟩ := X.invokevirtual hexec hown hlink hnamed hmethM hstM hkP hkPi hy (a := b) (cell := cellB) hcell
    (fun z h => by rw [h] at hobj; cases hobj) hselP hmethM habM hkP hkPi (g := g) hg (argsL := argsL) (rest := rest) (hlen _ hsigM) hstack hdg
  rcases hK m meth c ⟨T.setVm vm₁, locs, cells, slots⟩ { g with stack := rest } (.invokevirtual index) mk (Value.ref b :: argsL).toArray X₁ hg hsize hdg hW (X₁.named hnamed) (hpre vm₁ X₁.warmed) with ⟨v, B, X', hpost, hsteps⟩ | ⟨q, B, X', hpost, hsteps⟩
  · exact Or.inl ⟨v, vm₁, B, X₁.warmed, X', hpost, fun target h => hstep₁ _ fun acts => by rw [doInvoke_state]; exact hsteps.trans h⟩
  · exact Or.inr ⟨q, vm₁, B, X₁.warmed, X', hpost, hstep₁ _ fun acts => by rw [doInvoke_state]; exact hsteps⟩
theorem vx_callSX (X : Stand p l e R s m args below meth c T locs cells slots) (hexec : p.tables.exec = Jvm.exec) {own : String} {index : Nat} {y : MethodName} {bytes : ByteArray} {maxL : Nat} {ret : Option FieldType} {hh : List (Nat × Nat × Nat × Nat)}
    (hown : s.vm.findClass own = some m.cls) (hlink : (Cond.methodLink own index y).before args s = true) (hstat : (Cond.static y).before args s = true) (hinit : (Cond.initialized y.cls).before args s = true)
    (hcode : (Cond.codeWith y bytes maxL ret hh).before args s = true) (hy : y.cls ≠ "java/lang/invoke/MethodHandle" ∧ y.cls ≠ "java/lang/invoke/VarHandle")
    {W9 : Nat} {Pre : Pt → Array Value → Prop} {Post : Pt → Array Value → Option Value → Pt → Prop} {PostX : Pt → Array Value → Addr → Pt → Prop} (hK : vx_Back l R p e below s args y 3 W9 Pre Post PostX)
    {g : JFrame} (hg : g.method = m) (hsize : g.locals.size = c.maxLocals) {argsL rest : List Value} (hlen : ∀ sig, parseMethodDescriptor y.desc = some sig → argsL.length = sig.parameters.length)
    (hstack : g.stack = argsL.reverse ++ rest) (hW : 2 * g.monitorRoom + (rest.map fun v => v.category).sum ≤ W9) (hdg : decode c.code g.pc = .ok (.invokestatic index, 3))
    (hpre : ∀ vm₁, s.WarmedH vm₁ → Pre ⟨T.setVm vm₁, locs, cells, slots⟩ argsL.toArray) :
    (∃ (v : Option Value) (vm₁ : Vm) (B : Pt), s.WarmedH vm₁ ∧ Stand p l e R s m args below meth c B.U B.locs B.cells B.slots ∧ Post ⟨T.setVm vm₁, locs, cells, slots⟩ argsL.toArray v B ∧
      ∀ target, Steps p.tables e below (B.U.setTop { g with pc := g.pc + 3, stack := v.toList ++ rest }) target → Steps p.tables e below (T.setTop g) target) ∨
    (∃ (q : Addr) (vm₁ : Vm) (B : Pt), s.WarmedH vm₁ ∧ Stand p l e R s m args below meth c B.U B.locs B.cells B.slots ∧ PostX ⟨T.setVm vm₁, locs, cells, slots⟩ argsL.toArray q B ∧
      Steps p.tables e below (T.setTop g) ((B.U.setTop { g with stack := rest }).pushFrame (.throwing q))) := by
  obtain ⟨mk, methM, cM, hnamed, hmethM, -, -, -, -, -, -, hsigM⟩ := Cond.codeWith_spec hcode
  have hstatic : methM.isStatic = true := Cond.static_spec hnamed hmethM hstat
  obtain ⟨kP, hkP, -⟩ := className_of_methodNamed hnamed
  have hinitP : kP.init = .initialized := Cond.initialized_spec (findClass_of_methodNamed hnamed) hkP hinit
  obtain ⟨vm₁, X₁, hstep₁⟩ := X.invokestatic hexec hown hlink hnamed hmethM hstatic hkP hinitP hy (g := g) hg (argsL := argsL) (rest := rest) (hlen _ hsigM) hstack hdg
  rcases hK m meth c ⟨T.setVm vm₁, locs, cells, slots⟩ { g with stack := rest } (.invokestatic index) mk argsL.toArray X₁ hg hsize hdg hW (X₁.named hnamed) (hpre vm₁ X₁.warmed) with ⟨v, B, X', hpost, hsteps⟩ | ⟨q, B, X', hpost, hsteps⟩
  · exact Or.inl ⟨v, vm₁, B, X₁.warmed, X', hpost, fun target h => hstep₁ _ fun acts => by rw [doInvoke_state]; exact hsteps.trans h⟩
  · exact Or.inr ⟨q, vm₁, B, X₁.warmed, X', hpost, hstep₁ _ fun acts => by rw [doInvoke_state]; exact hsteps⟩
theorem vx_callVW (X : Stand p l e R s m args below meth c T locs cells slots) (hexec : p.tables.exec = Jvm.exec) {own C : String} {index : Nat} {y : MethodName} {bytes : ByteArray} {maxL : Nat} {ret : Option FieldType} {hh : List (Nat × Nat × Nat × Nat)}
    (hown : s.vm.findClass own = some m.cls) (hlink : (Cond.methodLink own index y).before args s = true) (hinst : (Cond.instanceMethod y).before args s = true) (hsel : (Cond.selects C y y).before args s = true)
    (hcode : (Cond.codeWith y bytes maxL ret hh).before args s = true) (hy : y.cls ≠ "java/lang/invoke/MethodHandle" ∧ y.cls ≠ "java/lang/invoke/VarHandle")
    {W9 : Nat} {Pre : Pt → Array Value → Prop} {Post : Pt → Array Value → Option Value → Pt → Prop} (hK : Back l R p e below s args y 3 W9 Pre Post)
    {b : Addr} {cellB : Cell} (hcell : T.heap[b]? = some cellB) (hobj : cellB.vm.isStatics = false) (hcls : s.vm.findClass C = some cellB.cls)
    {g : JFrame} (hg : g.method = m) (hsize : g.locals.size = c.maxLocals) {argsL rest : List Value} (hlen : ∀ sig, parseMethodDescriptor y.desc = some sig → argsL.length = sig.parameters.length)
    (hstack : g.stack = argsL.reverse ++ .ref b :: rest) (hW : 2 * g.monitorRoom + (rest.map fun v => v.category).sum ≤ W9) (hdg : decode c.code g.pc = .ok (.invokevirtual index, 3))
    (hpre : ∀ vm₁, s.WarmedH vm₁ → Pre ⟨T.setVm vm₁, locs, cells, slots⟩ (Value.ref b :: argsL).toArray) :
    ∃ (v : Option Value) (vm₁ : Vm) (B : Pt), s.WarmedH vm₁ ∧ Stand p l e R s m args below meth c B.U B.locs B.cells B.slots ∧ Post ⟨T.setVm vm₁, locs, cells, slots⟩ (Value.ref b :: argsL).toArray v B ∧
      ∀ target, Steps p.tables e below (B.U.setTop { g with pc := g.pc + 3, stack := v.toList ++ rest }) target → Steps p.tables e below (T.setTop g) target := by
  obtain ⟨mk, methM, hnamed, hmethM, hstM, habM⟩ := Cond.instanceMethod_spec hinst
  obtain ⟨m8, methM', cM, hn8, hmethM', -, -, -, -, -, -, hsigM⟩ := Cond.codeWith_spec hcode
  cases Option.some.inj (hn8.symm.trans hnamed)
  cases hmethM.symm.trans hmethM'
  obtain ⟨c2, r2, m2, q1, q2, q3, q4, kP, hkP, hkPi⟩ := Cond.selects_spec hsel
  cases hcls.symm.trans q1
  cases (State.methodFound?_of_named hnamed hy).symm.trans q2
  cases hnamed.symm.trans q3
  have hselP : selectMethod e.platform s.vm cellB.cls mk = .method mk := by rw [Launch.admits_selectMethod X.admits]; exact q4
  obtain ⟨vm₁, X₁, hstep₁⟩ := X.invokevirtual hexec hown hlink hnamed hmethM hstM hkP hkPi hy (a := b) (cell := cellB) hcell
    (fun z h => by rw [h] at hobj; cases hobj) hselP hmethM habM hkP hkPi (g := g) hg (argsL := argsL) (rest := rest) (hlen _ hsigM) hstack hdg
  obtain ⟨v, B, X', hpost, hsteps⟩ := hK m meth c ⟨T.setVm vm₁, locs, cells, slots⟩ { g with stack := rest } (.invokevirtual index) mk (Value.ref b :: argsL).toArray X₁ hg hsize hdg hW (X₁.named hnamed) (hpre vm₁ X₁.warmed)
  exact ⟨v, vm₁, B, X₁.warmed, X', hpost, fun target h => hstep₁ _ fun acts => by rw [doInvoke_state]; exact hsteps.trans h⟩
abbrev vx_CVW (R : Room) (s : State) (args : Array Value) (own C : String) (index : Nat) (y : MethodName) (bytes : ByteArray) (maxL : Nat) (ret : Option FieldType) (hh : List (Nat × Nat × Nat × Nat)) (ws : List Cond) (rm : Room) (mc ms n : Nat) : Prop :=
  (rm.cells = mc ∧ rm.slots = ms ∧ rm.frames + 1 ≤ R.frames ∧ 8 + (maxL + 11) + rm.locals ≤ R.locals ∧ (∀ w ∈ ws, ∀ (a' : Array Value) (U : State), s.WarmedH U.vm → w.before a' U = true) ∧ Cond.codeWith y bytes maxL ret hh ∈ ws) ∧
  (Cond.codeWith y bytes maxL ret hh).before args s = true ∧ (Cond.initialized y.cls).before args s = true ∧ (y.cls ≠ "java/lang/invoke/MethodHandle" ∧ y.cls ≠ "java/lang/invoke/VarHandle") ∧
  (∀ sig, parseMethodDescriptor y.desc = some sig → n = sig.parameters.length) ∧ (Cond.methodLink own index y).before args s = true ∧ (Cond.instanceMethod y).before args s = true ∧ (Cond.selects C y y).before args s = true
theorem vx_cwVW {own C : String} {index maxL mc ms : Nat} {y : MethodName} {bytes : ByteArray} {ret : Option FieldType} {hh : List (Nat × Nat × Nat × Nat)} {Ts ws ws' : List Cond} {rm : Room} (n : Nat) (ht : ∀ w ∈ Ts, w.before args s = true) (hT : GoodIn Ts (wsV own index C y ws)) (hw : ws = Cond.codeWith y bytes maxL ret hh :: ws') (hrc : rm.cells = mc) (hrs : rm.slots = ms)
    (hd : y.cls = C ∧ y.cls ≠ "java/lang/invoke/MethodHandle" ∧ y.cls ≠ "java/lang/invoke/VarHandle" ∧ (parseMethodDescriptor y.desc).map (fun d => d.parameters.length) = some n) (hR : rm.frames + 1 ≤ R.frames ∧ 8 + (maxL + 11) + rm.locals ≤ R.locals) :
    vx_CVW R s args own C index y bytes maxL ret hh ws rm mc ms n := by
  obtain ⟨hC, hd⟩ := hd
  subst hC
  have ok : ∀ w ∈ wsV own index y.cls y ws, w.before args s = true := fun w h => ht w (hT w h).1
  have hG : GoodIn Ts ws := fun w h => hT w (by unfold wsV; exact List.mem_append_right _ h)
  have hc : Cond.codeWith y bytes maxL ret hh ∈ ws := by rw [hw]; exact List.mem_cons_self
  refine ⟨⟨hrc, hrs, hR.1, hR.2, pay_in ht hG, hc⟩, ht _ (hG _ hc).1, ok _ (by simp [wsV]), ⟨hd.1, hd.2.1⟩, fun sig h => ?_, ok _ (by simp [wsV]), ok _ (by simp [wsV]), ok _ (by simp [wsV])⟩
  have h2 := hd.2.2
  rw [h] at h2
  exact (Option.some.inj h2).symm
theorem vx_runVW {y : MethodName} {bytes cc : ByteArray} {maxL nL mc ms n index : Nat} {ret : Option FieldType} {hh : List (Nat × Nat × Nat × Nat)} {ws : List Cond} {rm : Room} {Pc : Array Value → State → Prop} {Qc : Array Value → State → Outcome → State → Prop} {free : Addr → Prop} {Ts : List Cond} {own C : String} {b : Addr} {As rest : List Value} {g : JFrame}
    (S : CallFix p m c cc nL s args Ts own) (hM : Met l y ws rm Pc Qc mc ms free) (cw : vx_CVW R s args own C index y bytes maxL ret hh ws rm mc ms n) (hp : PreV s H C b Pc As)
    (hg : g.method = m) (hn : As.length = n) (hsize : g.locals.size = nL) (hstack : g.stack = As.reverse ++ .ref b :: rest) (hW : 2 * g.monitorRoom + (rest.map fun v => v.category).sum ≤ 8) (hdg : decode cc g.pc = .ok (.invokevirtual index, 3)) (hf : cells + mc ≤ R.cells ∧ slots + ms ≤ R.slots) :
    va_Run p l e R s m args below meth c H locs cells slots mc ms g rest (Qc (Value.ref b :: As).toArray) free := by
  obtain ⟨⟨hrc, hrs, hfr, hlo, hws, hcw⟩, hcode, hini, hy, hlen, hl, hin, hse⟩ := cw
  have hK : Back l R p e below s args y 3 8 (PreOf R mc ms Pc) (PostOf Qc mc ms free) := va_backW (hh := hh) (bytes := bytes) (maxL := maxL) (ret := ret) hM hp.1 hrc hrs hfr hlo hws hcw (fun a' U hW => word_at hW (Or.inl (by first | rfl | simp [Cond.onTables, Cond.keeps, Cond.steady])) hini)
  obtain ⟨hx, hb, hml, ho, -⟩ := S
  obtain ⟨-, ⟨cellB, hcB, hoB, hclB⟩, hPc⟩ := hp
  intro T hT X
  obtain ⟨v, vm₁, ⟨U', l2, c2, s2⟩, hW₁, X', ⟨g', mk, t, L, e1, e2, hq, h1, hL, h2, h3⟩, st⟩ := vx_callVW X hx (C := C) (hh := hh) (bytes := bytes) (maxL := maxL) (ret := ret) ho hl hin hse hcode hy hK (by rw [hT]; exact hcB) hoB hclB hg (hsize.trans hml.symm) (argsL := As) (rest := rest) (fun sig h => hn.trans (hlen sig h)) hstack hW (by rw [hb]; exact hdg)
    (fun vm₁ hW₁ => ⟨hf.1, hf.2, hPc (T.setVm vm₁) hT hW₁⟩)
  dsimp only [Pt.U, Pt.locs, Pt.cells, Pt.slots] at X' e1 e2 h1 h2 h3 st
  subst h1; subst h2; subst h3
  exact ⟨v, (T.setVm vm₁).calling g' mk (Value.ref b :: As).toArray, t, U', L, hT, X', hL, e1, e2, hq, st⟩
section
variable {y : MethodName} {bytes cc : ByteArray} {maxL nL mc ms n index : Nat} {ret : Option FieldType} {ws : List Cond} {rm : Room} {Pc : Array Value → State → Prop} {Qc : Array Value → State → Outcome → State → Prop} {XC : String → State → State → Prop} {free : Addr → Prop} {Ts : List Cond} {own C : String} {b : Addr} {As rest : List Value} {g : JFrame}
theorem vx_runVX {hh : List (Nat × Nat × Nat × Nat)} (S : CallFix p m c cc nL s args Ts own) (hM : vx_Met l y ws rm Pc Qc XC mc ms free) (cw : vx_CVW R s args own C index y bytes maxL ret hh ws rm mc ms n) (hp : PreV s H C b Pc As)
    (hg : g.method = m) (hn : As.length = n) (hsize : g.locals.size = nL) (hstack : g.stack = As.reverse ++ .ref b :: rest) (hW : 2 * g.monitorRoom + (rest.map fun v => v.category).sum ≤ 8) (hdg : decode cc g.pc = .ok (.invokevirtual index, 3)) (hf : cells + mc ≤ R.cells ∧ slots + ms ≤ R.slots) :
    vx_Run p l e R s m args below meth c H locs cells slots mc ms g rest (Qc (Value.ref b :: As).toArray) XC free := by
  obtain ⟨⟨hrc, hrs, hfr, hlo, hws, hcw⟩, hcode, hini, hy, hlen, hl, hin, hse⟩ := cw
  have hK : vx_Back l R p e below s args y 3 8 (PreOf R mc ms Pc) (PostOf Qc mc ms free) (vx_Post XC mc ms free) := vx_backW (hh := hh) (bytes := bytes) (maxL := maxL) (ret := ret) hM hp.1 hrc hrs hfr hlo hws hcw (fun a' U hW => word_at hW (Or.inl (by first | rfl | simp [Cond.onTables, Cond.keeps, Cond.steady])) hini)
  obtain ⟨hx, hb, hml, ho, -⟩ := S
  obtain ⟨-, ⟨cellB, hcB, hoB, hclB⟩, hPc⟩ := hp
  intro T hT X
  rcases vx_callVX X hx (C := C) (hh := hh) (bytes := bytes) (maxL := maxL) (ret := ret) ho hl hin hse hcode hy hK (by rw [hT]; exact hcB) hoB hclB hg (hsize.trans hml.symm) (argsL := As) (rest := rest) (fun sig h => hn.trans (hlen sig h)) hstack hW (by rw [hb]; exact hdg)
    (fun vm₁ hW₁ => ⟨hf.1, hf.2, hPc (T.setVm vm₁) hT hW₁⟩) with ⟨v, vm₁, ⟨U', l2, c2, s2⟩, hW₁, X', ⟨g', mk, t, L, e1, e2, hq, h1, hL, h2, h3⟩, st⟩ | ⟨q, vm₁, ⟨U', l2, c2, s2⟩, hW₁, X', ⟨g', mk, t, L, E, ce, e1, e2, hq, hce, hcv, hcl, h1, hL, h2, h3⟩, st⟩
  · dsimp only [Pt.U, Pt.locs, Pt.cells, Pt.slots] at X' e1 e2 h1 h2 h3 st
    subst h1; subst h2; subst h3
    exact Or.inl ⟨v, (T.setVm vm₁).calling g' mk (Value.ref b :: As).toArray, t, U', L, hT, X', hL, e1, e2, hq, st⟩
  · dsimp only [Pt.U, Pt.locs, Pt.cells, Pt.slots] at X' e1 e2 h1 h2 h3 st hcl
    subst h1; subst h2; subst h3
    exact Or.inr ⟨q, (T.setVm vm₁).calling g' mk (Value.ref b :: As).toArray, t, U', L, E, ce, hT, X', hL, e1, e2, hq, hce, hcv, vx_cls hW₁ hcl, st⟩
theorem vx_runSX {hh : List (Nat × Nat × Nat × Nat)} (S : CallFix p m c cc nL s args Ts own) (hM : vx_Met l y ws rm Pc Qc XC mc ms free) (cw : vx_CSW R s args own index y bytes maxL ret hh ws rm mc ms n) (hp : PreS s H Pc As)
    (hg : g.method = m) (hn : As.length = n) (hsize : g.locals.size = nL) (hstack : g.stack = As.reverse ++ rest) (hW : 2 * g.monitorRoom + (rest.map fun v => v.category).sum ≤ 8) (hdg : decode cc g.pc = .ok (.invokestatic index, 3)) (hf : cells + mc ≤ R.cells ∧ slots + ms ≤ R.slots) :
    vx_Run p l e R s m args below meth c H locs cells slots mc ms g rest (Qc As.toArray) XC free := by
  obtain ⟨⟨hrc, hrs, hfr, hlo, hws, hcw⟩, hcode, hini, hy, hlen, hl, hstt⟩ := cw
  have hK : vx_Back l R p e below s args y 3 8 (PreOf R mc ms Pc) (PostOf Qc mc ms free) (vx_Post XC mc ms free) := vx_backW (hh := hh) (bytes := bytes) (maxL := maxL) (ret := ret) hM hp.1 hrc hrs hfr hlo hws hcw (fun a' U hW => word_at hW (Or.inl (by first | rfl | simp [Cond.onTables, Cond.keeps, Cond.steady])) hini)
  obtain ⟨hx, hb, hml, ho, -⟩ := S
  intro T hT X
  rcases vx_callSX X hx (hh := hh) (bytes := bytes) (maxL := maxL) (ret := ret) ho hl hstt hini hcode hy hK hg (hsize.trans hml.symm) (argsL := As) (rest := rest) (fun sig h => hn.trans (hlen sig h)) hstack hW (by rw [hb]; exact hdg)
    (fun vm₁ hW₁ => ⟨hf.1, hf.2, hp.2 (T.setVm vm₁) hT hW₁⟩) with ⟨v, vm₁, ⟨U', l2, c2, s2⟩, hW₁, X', ⟨g', mk, t, L, e1, e2, hq, h1, hL, h2, h3⟩, st⟩ | ⟨q, vm₁, ⟨U', l2, c2, s2⟩, hW₁, X', ⟨g', mk, t, L, E, ce, e1, e2, hq, hce, hcv, hcl, h1, hL, h2, h3⟩, st⟩
  · dsimp only [Pt.U, Pt.locs, Pt.cells, Pt.slots] at X' e1 e2 h1 h2 h3 st
    subst h1; subst h2; subst h3
    exact Or.inl ⟨v, (T.setVm vm₁).calling g' mk As.toArray, t, U', L, hT, X', hL, e1, e2, hq, st⟩
  · dsimp only [Pt.U, Pt.locs, Pt.cells, Pt.slots] at X' e1 e2 h1 h2 h3 st hcl
    subst h1; subst h2; subst h3
    exact Or.inr ⟨q, (T.setVm vm₁).calling g' mk As.toArray, t, U', L, E, ce, hT, X', hL, e1, e2, hq, hce, hcv, vx_cls hW₁ hcl, st⟩
end
end VXH
theorem vx_ofWH {l : Launch} {y : MethodName} {ws ws' : List Cond} {rm : Room} {Pc : Array Value → State → Prop} {Qc : Array Value → State → Outcome → State → Prop} {XC : String → State → State → Prop} {mc ms : Nat} {free : Addr → Prop} {cc : ByteArray} {maxL : Nat} {ret : Option FieldType} {hh : List (Nat × Nat × Nat × Nat)}
    (hy : plainName y.cls = true) (hw : ws = Cond.codeWith y cc maxL ret hh :: ws')
    (body : ∀ p e s m args below meth c s₁, BodyLoose p l y (headSpec ws rm) cc maxL ret e s m args below meth c s₁ → c.maxLocals = maxL → Pc args s →
      W p l e (headSpec ws rm).room s m args below meth c s.heap [] 0 0 (vx_MQ below Qc XC args s mc ms free) (entryFrame m args maxL)) : vx_Met l y ws rm Pc Qc XC mc ms free := by
  refine MetFree.of_bodyS (code := cc) (maxLocals := maxL) (ret := ret) hy ?_ ?_
  · intro args s m h hn
    obtain ⟨m9, meth, c, hn9, h1, h2, h3, h4, -, h5, h6, -⟩ := Cond.codeWith_spec (atoms_spec (ws := ws) h _ (by rw [hw]; exact List.mem_cons_self))
    cases hn.symm.trans hn9
    exact ⟨meth, c, h1, h2, h3, h4, h5, h6⟩
  · intro p e s m args below meth c s₁ B hml hP _
    have hh0 : s₁.heap = s.heap := by rw [B.state]; rfl
    obtain ⟨t, a1, o, b1, b2, b3⟩ := body p e s m args below meth c s₁ B hml hP s₁ hh0 (Stand.of_body B)
    exact ⟨t, o, a1, b1, b2, b3⟩
/-! ===== END ===== -/
/-! Rows of one instruction over numbers that are naturals (nI): made of the kit's rows. -/
section RkRows
variable {p : Program} {l : Launch} {e : Env} {R : Room} {s : State} {m : MethodId} {args : Array Value} {below : List Frame} {meth : Method} {c : Code} {H : Heap} {locs : List Loc} {cells slots : Nat} {Q : State → Prop}
variable {cc : ByteArray} {pc : Nat} {ls : Array Slot} {rest : List Value} {D : va_G} {cl : List vw_C} {A : Nat → Prop} {a : Nat} {tys : List (ClassId × FieldType)} {ws : va_W} {H0 : Heap}
theorem rk_iadd (hexec : p.tables.exec = Jvm.exec) (hb : c.code = cc) {x y : Nat} (hdg : decode cc pc = .ok (.iadd, 1))
    (k : W p l e R s m args below meth c H locs cells slots Q (F0 m (pc + 1) ls (.int (nI (x + y)) :: rest))) : W p l e R s m args below meth c H locs cells slots Q (F0 m pc ls (.int (nI y) :: .int (nI x) :: rest)) :=
  lv_iadd hexec hb hdg (by rw [nI_add]; exact k)
theorem rk_isub (hexec : p.tables.exec = Jvm.exec) (hb : c.code = cc) {x y : Nat} (hle : y ≤ x) (hdg : decode cc pc = .ok (.isub, 1))
    (k : W p l e R s m args below meth c H locs cells slots Q (F0 m (pc + 1) ls (.int (nI (x - y)) :: rest))) : W p l e R s m args below meth c H locs cells slots Q (F0 m pc ls (.int (nI y) :: .int (nI x) :: rest)) :=
  lv_isub hexec hb hdg (by rw [pk_sub hle]; exact k)
theorem rk_iald (hexec : p.tables.exec = Jvm.exec) (hb : c.code = cc) (hK : va_K D cl tys s) (hP : va_P D cl ws H) (q0 t0 : Nat) {cA : ClassId} {n : Nat} {f : Nat → Int32} (ha : ws[q0]? = some (a, .inl (cA, n, .inl f))) (ht : tys[t0]? = some (cA, .int)) {i : Nat} (hi : i < n) (hn : n < 2 ^ 31) (hdg : decode cc pc = .ok (.iaload, 1))
    (kk : W p l e R s m args below meth c H locs cells slots Q (F0 m (pc + 1) ls (.int (f i) :: rest))) : W p l e R s m args below meth c H locs cells slots Q (F0 m pc ls (.int (nI i) :: .ref a :: rest)) :=
  va_iald hexec hb hK hP q0 t0 ha ht (vp_in_nI hi hn) hdg (by rw [nI_clamp (Nat.lt_trans hi hn)]; exact kk)
theorem rk_zald (hexec : p.tables.exec = Jvm.exec) (hb : c.code = cc) (hK : va_K D cl tys s) (hP : va_P D cl ws H) (q0 t0 : Nat) {cA : ClassId} {n : Nat} {f : Nat → Int32} (ha : ws[q0]? = some (a, .inl (cA, n, .inl f))) (ht : tys[t0]? = some (cA, .boolean)) {i : Nat} (hi : i < n) (hn : n < 2 ^ 31) (hdg : decode cc pc = .ok (.baload, 1))
    (kk : W p l e R s m args below meth c H locs cells slots Q (F0 m (pc + 1) ls (.int (f i) :: rest))) : W p l e R s m args below meth c H locs cells slots Q (F0 m pc ls (.int (nI i) :: .ref a :: rest)) :=
  va_zald hexec hb hK hP q0 t0 ha ht (vp_in_nI hi hn) hdg (by rw [nI_clamp (Nat.lt_trans hi hn)]; exact kk)
theorem rk_lald (hexec : p.tables.exec = Jvm.exec) (hb : c.code = cc) (hK : va_K D cl tys s) (hP : va_P D cl ws H) (q0 t0 : Nat) {cA : ClassId} {n : Nat} {f : Nat → Int64} (ha : ws[q0]? = some (a, .inl (cA, n, .inr (.inl f)))) (ht : tys[t0]? = some (cA, .long)) {i : Nat} (hi : i < n) (hn : n < 2 ^ 31) (hdg : decode cc pc = .ok (.laload, 1))
    (kk : W p l e R s m args below meth c H locs cells slots Q (F0 m (pc + 1) ls (.long (f i) :: rest))) : W p l e R s m args below meth c H locs cells slots Q (F0 m pc ls (.int (nI i) :: .ref a :: rest)) :=
  va_lald hexec hb hK hP q0 t0 ha ht (vp_in_nI hi hn) hdg (by rw [nI_clamp (Nat.lt_trans hi hn)]; exact kk)
theorem rk_iast (hexec : p.tables.exec = Jvm.exec) (hb : c.code = cc) (hK : va_K D cl tys s) (hP : va_P D cl ws H) (hD : va_D A ws) (hS : va_S A H0 H locs) (q0 t0 : Nat) {cA : ClassId} {n : Nat} {f : Nat → Int32} (ha : ws[q0]? = some (a, .inl (cA, n, .inl f))) (ht : tys[t0]? = some (cA, .int)) {i : Nat} {x : Int32} (hi : i < n) (hn : n < 2 ^ 31) (hdg : decode cc pc = .ok (.iastore, 1))
    (kk : ∀ (H1 : Heap) (locs1 : List Loc), va_P D cl (ws.set q0 (a, .inl (cA, n, .inl (upd f i x)))) H1 → va_D A (ws.set q0 (a, .inl (cA, n, .inl (upd f i x)))) → va_S A H0 H1 locs1 → W p l e R s m args below meth c H1 locs1 cells slots Q (F0 m (pc + 1) ls rest)) : W p l e R s m args below meth c H locs cells slots Q (F0 m pc ls (.int x :: .int (nI i) :: .ref a :: rest)) :=
  va_iast hexec hb hK hP hD hS q0 t0 ha ht (vp_in_nI hi hn) hdg (by rw [nI_clamp (Nat.lt_trans hi hn)]; exact kk)
theorem rk_zast (hexec : p.tables.exec = Jvm.exec) (hb : c.code = cc) (hK : va_K D cl tys s) (hP : va_P D cl ws H) (hD : va_D A ws) (hS : va_S A H0 H locs) (q0 t0 : Nat) {cA : ClassId} {n : Nat} {f : Nat → Int32} (ha : ws[q0]? = some (a, .inl (cA, n, .inl f))) (ht : tys[t0]? = some (cA, .boolean)) {i : Nat} {x : Int32} (hx : vp_nar .boolean x = x) (hi : i < n) (hn : n < 2 ^ 31) (hdg : decode cc pc = .ok (.bastore, 1))
    (kk : ∀ (H1 : Heap) (locs1 : List Loc), va_P D cl (ws.set q0 (a, .inl (cA, n, .inl (upd f i x)))) H1 → va_D A (ws.set q0 (a, .inl (cA, n, .inl (upd f i x)))) → va_S A H0 H1 locs1 → W p l e R s m args below meth c H1 locs1 cells slots Q (F0 m (pc + 1) ls rest)) : W p l e R s m args below meth c H locs cells slots Q (F0 m pc ls (.int x :: .int (nI i) :: .ref a :: rest)) :=
  va_zast hexec hb hK hP hD hS q0 t0 ha ht (vp_in_nI hi hn) hdg (by rw [nI_clamp (Nat.lt_trans hi hn), hx]; exact kk)
theorem rk_last (hexec : p.tables.exec = Jvm.exec) (hb : c.code = cc) (hK : va_K D cl tys s) (hP : va_P D cl ws H) (hD : va_D A ws) (hS : va_S A H0 H locs) (q0 t0 : Nat) {cA : ClassId} {n : Nat} {f : Nat → Int64} (ha : ws[q0]? = some (a, .inl (cA, n, .inr (.inl f)))) (ht : tys[t0]? = some (cA, .long)) {i : Nat} {x : Int64} (hi : i < n) (hn : n < 2 ^ 31) (hdg : decode cc pc = .ok (.lastore, 1))
    (kk : ∀ (H1 : Heap) (locs1 : List Loc), va_P D cl (ws.set q0 (a, .inl (cA, n, .inr (.inl (vp_updL f i x))))) H1 → va_D A (ws.set q0 (a, .inl (cA, n, .inr (.inl (vp_updL f i x))))) → va_S A H0 H1 locs1 → W p l e R s m args below meth c H1 locs1 cells slots Q (F0 m (pc + 1) ls rest)) : W p l e R s m args below meth c H locs cells slots Q (F0 m pc ls (.long x :: .int (nI i) :: .ref a :: rest)) :=
  va_last hexec hb hK hP hD hS q0 t0 ha ht (vp_in_nI hi hn) hdg (by rw [nI_clamp (Nat.lt_trans hi hn)]; exact kk)
theorem rk_newaI (hexec : p.tables.exec = Jvm.exec) (hb : c.code = cc) (harr : (Cond.arrayClass .int).before args s = true) {cI cJ cZ : ClassId} (hK : va_K D cl [(cI, .int), (cJ, .long), (cZ, .boolean)] s) (hP : va_P D cl ws H) (hD : va_D A ws) (hS : va_S A H0 H locs) (hA : ∀ q, H0.size ≤ q → A q) {N : Nat} (hN : N ≤ 4096) (hcells : cells + 1 ≤ R.cells) (hslots : slots + N ≤ R.slots) (hdg : decode cc pc = .ok (.newarray .int, 2))
    (kk : ∀ (q : Nat) (H1 : Heap), va_P D cl (ws ++ [(q, .inl (cI, N, .inl (fun _ => 0)))]) H1 → va_D A (ws ++ [(q, .inl (cI, N, .inl (fun _ => 0)))]) → va_S A H0 H1 locs → W p l e R s m args below meth c H1 locs (cells + 1) (slots + N) Q (F0 m (pc + 2) ls (.ref q :: rest))) : W p l e R s m args below meth c H locs cells slots Q (F0 m pc ls (.int (nI N) :: rest)) := by
  refine va_newa (atype := .int) (ty := .int) (N' := N) (a0 := (N, .inl (fun _ => 0))) hexec hb harr rfl hK hP hD hS hA (fun _ => rfl) (nI_pos (by omega)) (nI_clamp (by omega)) (Nat.le_trans (Nat.mul_le_mul_right _ hN) (by decide)) hcells hslots hdg (fun q cA H1 hK1 hP1 hD1 hS1 => ?_)
  have e1 := va_nm_int (hK.2 0 _ rfl).2
  have e2 := va_nm_int (hK1.2 3 _ rfl).2
  have e3 : cA = cI := Option.some.inj (e2.symm.trans e1)
  subst e3
  exact kk q H1 hP1 hD1 hS1
theorem rk_newaJ (hexec : p.tables.exec = Jvm.exec) (hb : c.code = cc) (harr : (Cond.arrayClass .long).before args s = true) {cI cJ cZ : ClassId} (hK : va_K D cl [(cI, .int), (cJ, .long), (cZ, .boolean)] s) (hP : va_P D cl ws H) (hD : va_D A ws) (hS : va_S A H0 H locs) (hA : ∀ q, H0.size ≤ q → A q) {N : Nat} (hN : N ≤ 4096) (hcells : cells + 1 ≤ R.cells) (hslots : slots + N ≤ R.slots) (hdg : decode cc pc = .ok (.newarray .long, 2))
    (kk : ∀ (q : Nat) (H1 : Heap), va_P D cl (ws ++ [(q, .inl (cJ, N, .inr (.inl (fun _ => 0))))]) H1 → va_D A (ws ++ [(q, .inl (cJ, N, .inr (.inl (fun _ => 0))))]) → va_S A H0 H1 locs → W p l e R s m args below meth c H1 locs (cells + 1) (slots + N) Q (F0 m (pc + 2) ls (.ref q :: rest))) : W p l e R s m args below meth c H locs cells slots Q (F0 m pc ls (.int (nI N) :: rest)) := by
  refine va_newa (atype := .long) (ty := .long) (N' := N) (a0 := (N, .inr (.inl (fun _ => 0)))) hexec hb harr rfl hK hP hD hS hA (fun _ => rfl) (nI_pos (by omega)) (nI_clamp (by omega)) (Nat.le_trans (Nat.mul_le_mul_right _ hN) (by decide)) hcells hslots hdg (fun q cA H1 hK1 hP1 hD1 hS1 => ?_)
  have e1 := va_nm_long (hK.2 1 _ rfl).2
  have e2 := va_nm_long (hK1.2 3 _ rfl).2
  have e3 : cA = cJ := Option.some.inj (e2.symm.trans e1)
  subst e3
  exact kk q H1 hP1 hD1 hS1
theorem rk_newaZ (hexec : p.tables.exec = Jvm.exec) (hb : c.code = cc) (harr : (Cond.arrayClass .boolean).before args s = true) {cI cJ cZ : ClassId} (hK : va_K D cl [(cI, .int), (cJ, .long), (cZ, .boolean)] s) (hP : va_P D cl ws H) (hD : va_D A ws) (hS : va_S A H0 H locs) (hA : ∀ q, H0.size ≤ q → A q) {N : Nat} (hN : N ≤ 4096) (hcells : cells + 1 ≤ R.cells) (hslots : slots + N ≤ R.slots) (hdg : decode cc pc = .ok (.newarray .boolean, 2))
    (kk : ∀ (q : Nat) (H1 : Heap), va_P D cl (ws ++ [(q, .inl (cZ, N, .inl (fun _ => 0)))]) H1 → va_D A (ws ++ [(q, .inl (cZ, N, .inl (fun _ => 0)))]) → va_S A H0 H1 locs → W p l e R s m args below meth c H1 locs (cells + 1) (slots + N) Q (F0 m (pc + 2) ls (.ref q :: rest))) : W p l e R s m args below meth c H locs cells slots Q (F0 m pc ls (.int (nI N) :: rest)) := by
  refine va_newa (atype := .boolean) (ty := .boolean) (N' := N) (a0 := (N, .inl (fun _ => 0))) hexec hb harr rfl hK hP hD hS hA (fun _ => rfl) (nI_pos (by omega)) (nI_clamp (by omega)) (Nat.le_trans (Nat.mul_le_mul_right _ hN) (by decide)) hcells hslots hdg (fun q cA H1 hK1 hP1 hD1 hS1 => ?_)
  have e1 := va_nm_boolean (hK.2 2 _ rfl).2
  have e2 := va_nm_boolean (hK1.2 3 _ rfl).2
  have e3 : cA = cZ := Option.some.inj (e2.symm.trans e1)
  subst e3
  exact kk q H1 hP1 hD1 hS1
end RkRows
end
section
def RX0 : String := "RevisionShelf$EventLog"
def TX0 : u_T := fun k => match k with
  | 0 => ("RevisionShelf$EventLog", "revision", "I", false)
  | 1 => ("RevisionShelf$EventLog", "size", "I", false)
  | 2 => ("RevisionShelf$EventLog", "keys", "[I", true)
  | 3 => ("RevisionShelf$EventLog", "revisions", "[I", true)
  | 4 => ("RevisionShelf$EventLog", "sets", "[Z", true)
  | 5 => ("RevisionShelf$EventLog", "values", "[J", true)
  | 6 => ("RevisionShelf$EventLog", "versions", "[I", true)
  | 7 => ("RevisionShelf$EventLog", "creations", "[I", true)
  | 8 => ("RevisionShelf$EventLog", "replacedIn", "[I", true)
  | _ => ("RevisionShelf$EventLog", "byKey", "[I", true)
def tyX0 : Nat → FieldType := fun k => match k with
  | 0 => .int
  | 1 => .int
  | 2 => .array .int
  | 3 => .array .int
  | 4 => .array .boolean
  | 5 => .array .long
  | 6 => .array .int
  | 7 => .array .int
  | 8 => .array .int
  | _ => .array .int
theorem nmX0 : ∀ a, a < 10 → ∀ b, b < 10 → a ≠ b → (TX0 a).2.1 ≠ (TX0 b).2.1 := by decide +kernel
theorem tyX0_ok : ∀ k, k < 10 → parseFieldDescriptor (TX0 k).2.2.1 = some (tyX0 k) := by decide +kernel
def RX1 : String := "RevisionShelf$StepList"
def TX1 : u_T := fun k => match k with
  | 0 => ("RevisionShelf$StepList", "size", "I", false)
  | 1 => ("RevisionShelf$StepList", "keys", "[I", true)
  | 2 => ("RevisionShelf$StepList", "sets", "[Z", true)
  | _ => ("RevisionShelf$StepList", "values", "[J", true)
def tyX1 : Nat → FieldType := fun k => match k with
  | 0 => .int
  | 1 => .array .int
  | 2 => .array .boolean
  | _ => .array .long
theorem nmX1 : ∀ a, a < 4 → ∀ b, b < 4 → a ≠ b → (TX1 a).2.1 ≠ (TX1 b).2.1 := by decide +kernel
theorem tyX1_ok : ∀ k, k < 4 → parseFieldDescriptor (TX1 k).2.2.1 = some (tyX1 k) := by decide +kernel
def RX2 : String := "RevisionShelf$TestList"
def TX2 : u_T := fun k => match k with
  | 0 => ("RevisionShelf$TestList", "size", "I", false)
  | 1 => ("RevisionShelf$TestList", "keys", "[I", true)
  | 2 => ("RevisionShelf$TestList", "whats", "[I", true)
  | 3 => ("RevisionShelf$TestList", "relations", "[I", true)
  | _ => ("RevisionShelf$TestList", "bounds", "[J", true)
def tyX2 : Nat → FieldType := fun k => match k with
  | 0 => .int
  | 1 => .array .int
  | 2 => .array .int
  | 3 => .array .int
  | _ => .array .long
theorem nmX2 : ∀ a, a < 5 → ∀ b, b < 5 → a ≠ b → (TX2 a).2.1 ≠ (TX2 b).2.1 := by decide +kernel
theorem tyX2_ok : ∀ k, k < 5 → parseFieldDescriptor (TX2 k).2.2.1 = some (tyX2 k) := by decide +kernel
def RX3 : String := "RevisionShelf"
def TX3 : u_T := fun k => match k with
  | 0 => ("RevisionShelf", "log", "LRevisionShelf$EventLog;", true)
  | 1 => ("RevisionShelf", "tests", "LRevisionShelf$TestList;", true)
  | 2 => ("RevisionShelf", "firstSteps", "LRevisionShelf$StepList;", true)
  | 3 => ("RevisionShelf", "secondSteps", "LRevisionShelf$StepList;", true)
  | _ => ("RevisionShelf", "compacted", "I", false)
def tyX3 : Nat → FieldType := fun k => match k with
  | 0 => .object "RevisionShelf$EventLog"
  | 1 => .object "RevisionShelf$TestList"
  | 2 => .object "RevisionShelf$StepList"
  | 3 => .object "RevisionShelf$StepList"
  | _ => .int
theorem nmX3 : ∀ a, a < 5 → ∀ b, b < 5 → a ≠ b → (TX3 a).2.1 ≠ (TX3 b).2.1 := by decide +kernel
theorem tyX3_ok : ∀ k, k < 5 → parseFieldDescriptor (TX3 k).2.2.1 = some (tyX3 k) := by decide +kernel
def RX4 : String := "RevisionShelfModel"
def TX4 : u_T := fun k => match k with
  | 0 => ("RevisionShelfModel", "thrown", "I", false)
  | 1 => ("RevisionShelfModel", "evKey", "[I", true)
  | 2 => ("RevisionShelfModel", "evRevision", "[I", true)
  | 3 => ("RevisionShelfModel", "evNext", "[I", true)
  | 4 => ("RevisionShelfModel", "evValue", "[J", true)
  | 5 => ("RevisionShelfModel", "evSet", "[Z", true)
  | 6 => ("RevisionShelfModel", "events", "I", false)
  | 7 => ("RevisionShelfModel", "revision", "I", false)
  | 8 => ("RevisionShelfModel", "compacted", "I", false)
  | 9 => ("RevisionShelfModel", "testKey", "[I", true)
  | 10 => ("RevisionShelfModel", "testWhat", "[I", true)
  | 11 => ("RevisionShelfModel", "testRelation", "[I", true)
  | 12 => ("RevisionShelfModel", "testValue", "[J", true)
  | 13 => ("RevisionShelfModel", "tests", "I", false)
  | 14 => ("RevisionShelfModel", "stepKey", "[I", true)
  | 15 => ("RevisionShelfModel", "stepSet", "[Z", true)
  | 16 => ("RevisionShelfModel", "stepValue", "[J", true)
  | 17 => ("RevisionShelfModel", "firsts", "I", false)
  | 18 => ("RevisionShelfModel", "seconds", "I", false)
  | _ => ("RevisionShelfModel", "keys", "[I", true)
def tyX4 : Nat → FieldType := fun k => match k with
  | 0 => .int
  | 1 => .array .int
  | 2 => .array .int
  | 3 => .array .int
  | 4 => .array .long
  | 5 => .array .boolean
  | 6 => .int
  | 7 => .int
  | 8 => .int
  | 9 => .array .int
  | 10 => .array .int
  | 11 => .array .int
  | 12 => .array .long
  | 13 => .int
  | 14 => .array .int
  | 15 => .array .boolean
  | 16 => .array .long
  | 17 => .int
  | 18 => .int
  | _ => .array .int
theorem nmX4 : ∀ a, a < 20 → ∀ b, b < 20 → a ≠ b → (TX4 a).2.1 ≠ (TX4 b).2.1 := by decide +kernel
theorem tyX4_ok : ∀ k, k < 20 → parseFieldDescriptor (TX4 k).2.2.1 = some (tyX4 k) := by decide +kernel
def RL : String := "RevisionShelfLaw"
abbrev cX3_init : ByteArray := prog_1_method_1_code
def yX3_init : MethodName := ⟨RX3, "<init>", "()V"⟩
abbrev cX3_put : ByteArray := prog_1_method_2_code
def yX3_put : MethodName := ⟨RX3, "put", "(IJ)I"⟩
abbrev cX3_remove : ByteArray := prog_1_method_3_code
def yX3_remove : MethodName := ⟨RX3, "remove", "(I)I"⟩
abbrev cX3_test : ByteArray := prog_1_method_4_code
def yX3_test : MethodName := ⟨RX3, "test", "(IIIJ)V"⟩
abbrev cX3_step : ByteArray := prog_1_method_5_code
def yX3_step : MethodName := ⟨RX3, "step", "(ZIZJ)V"⟩
abbrev cX3_deal : ByteArray := prog_1_method_6_code
def yX3_deal : MethodName := ⟨RX3, "deal", "()I"⟩
abbrev cX3_get : ByteArray := prog_1_method_7_code
def yX3_get : MethodName := ⟨RX3, "get", "(II)J"⟩
abbrev cX3_state : ByteArray := prog_1_method_8_code
def yX3_state : MethodName := ⟨RX3, "state", "(III)I"⟩
abbrev cX3_many : ByteArray := prog_1_method_9_code
def yX3_many : MethodName := ⟨RX3, "many", "(III)I"⟩
abbrev cX3_key : ByteArray := prog_1_method_10_code
def yX3_key : MethodName := ⟨RX3, "key", "(IIII)I"⟩
abbrev cX3_compact : ByteArray := prog_1_method_11_code
def yX3_compact : MethodName := ⟨RX3, "compact", "(I)V"⟩
abbrev cX3_event : ByteArray := prog_1_method_12_code
def yX3_event : MethodName := ⟨RX3, "event", "(III)I"⟩
abbrev cX3_count : ByteArray := prog_1_method_13_code
def yX3_count : MethodName := ⟨RX3, "count", "(I)I"⟩
abbrev cX3_refuseIfFull : ByteArray := prog_1_method_14_code
def yX3_refuseIfFull : MethodName := ⟨RX3, "refuseIfFull", "(I)V"⟩
abbrev cX3_readingRevision : ByteArray := prog_1_method_15_code
def yX3_readingRevision : MethodName := ⟨RX3, "readingRevision", "(I)I"⟩
abbrev cX4_init : ByteArray := prog_6_method_1_code
def yX4_init : MethodName := ⟨RX4, "<init>", "()V"⟩
abbrev cX4_thrown : ByteArray := prog_6_method_2_code
def yX4_thrown : MethodName := ⟨RX4, "thrown", "()I"⟩
abbrev cX4_no : ByteArray := prog_6_method_3_code
def yX4_no : MethodName := ⟨RX4, "no", "(I)I"⟩
abbrev cX4_last : ByteArray := prog_6_method_4_code
def yX4_last : MethodName := ⟨RX4, "last", "(II)I"⟩
abbrev cX4_isThere : ByteArray := prog_6_method_5_code
def yX4_isThere : MethodName := ⟨RX4, "isThere", "(II)Z"⟩
abbrev cX4_add : ByteArray := prog_6_method_6_code
def yX4_add : MethodName := ⟨RX4, "add", "(IZJI)V"⟩
abbrev cX4_put : ByteArray := prog_6_method_7_code
def yX4_put : MethodName := ⟨RX4, "put", "(IJ)I"⟩
abbrev cX4_remove : ByteArray := prog_6_method_8_code
def yX4_remove : MethodName := ⟨RX4, "remove", "(I)I"⟩
abbrev cX4_test : ByteArray := prog_6_method_9_code
def yX4_test : MethodName := ⟨RX4, "test", "(IIIJ)V"⟩
abbrev cX4_step : ByteArray := prog_6_method_10_code
def yX4_step : MethodName := ⟨RX4, "step", "(ZIZJ)V"⟩
abbrev cX4_told : ByteArray := prog_6_method_11_code
def yX4_told : MethodName := ⟨RX4, "told", "(III)J"⟩
abbrev cX4_deal : ByteArray := prog_6_method_12_code
def yX4_deal : MethodName := ⟨RX4, "deal", "()I"⟩
abbrev cX4_reading : ByteArray := prog_6_method_13_code
def yX4_reading : MethodName := ⟨RX4, "reading", "(IZ)I"⟩
abbrev cX4_get : ByteArray := prog_6_method_14_code
def yX4_get : MethodName := ⟨RX4, "get", "(II)J"⟩
abbrev cX4_state : ByteArray := prog_6_method_15_code
def yX4_state : MethodName := ⟨RX4, "state", "(III)I"⟩
abbrev cX4_gather : ByteArray := prog_6_method_16_code
def yX4_gather : MethodName := ⟨RX4, "gather", "(III)I"⟩
abbrev cX4_many : ByteArray := prog_6_method_17_code
def yX4_many : MethodName := ⟨RX4, "many", "(III)I"⟩
abbrev cX4_key : ByteArray := prog_6_method_18_code
def yX4_key : MethodName := ⟨RX4, "key", "(IIII)I"⟩
abbrev cX4_compact : ByteArray := prog_6_method_19_code
def yX4_compact : MethodName := ⟨RX4, "compact", "(I)V"⟩
abbrev cX4_event : ByteArray := prog_6_method_20_code
def yX4_event : MethodName := ⟨RX4, "event", "(III)I"⟩
abbrev cX4_count : ByteArray := prog_6_method_21_code
def yX4_count : MethodName := ⟨RX4, "count", "(I)I"⟩
abbrev cX0_init : ByteArray := prog_2_method_1_code
def yX0_init : MethodName := ⟨RX0, "<init>", "()V"⟩
abbrev cX0_openRevision : ByteArray := prog_2_method_2_code
def yX0_openRevision : MethodName := ⟨RX0, "openRevision", "()V"⟩
abbrev cX0_appendSet : ByteArray := prog_2_method_3_code
def yX0_appendSet : MethodName := ⟨RX0, "appendSet", "(IJ)V"⟩
abbrev cX0_appendRemoval : ByteArray := prog_2_method_4_code
def yX0_appendRemoval : MethodName := ⟨RX0, "appendRemoval", "(I)V"⟩
abbrev cX0_append : ByteArray := prog_2_method_5_code
def yX0_append : MethodName := ⟨RX0, "append", "(II)I"⟩
abbrev cX0_sortIn : ByteArray := prog_2_method_6_code
def yX0_sortIn : MethodName := ⟨RX0, "sortIn", "(I)V"⟩
abbrev cX0_isThere : ByteArray := prog_2_method_7_code
def yX0_isThere : MethodName := ⟨RX0, "isThere", "(I)Z"⟩
abbrev cX0_find : ByteArray := prog_2_method_8_code
def yX0_find : MethodName := ⟨RX0, "find", "(II)I"⟩
abbrev cX0_holds : ByteArray := prog_2_method_9_code
def yX0_holds : MethodName := ⟨RX0, "holds", "(II)Z"⟩
abbrev cX0_read : ByteArray := prog_2_method_10_code
def yX0_read : MethodName := ⟨RX0, "read", "(III)J"⟩
abbrev cX0_keysWithin : ByteArray := prog_2_method_11_code
def yX0_keysWithin : MethodName := ⟨RX0, "keysWithin", "(III)I"⟩
abbrev cX0_findWithin : ByteArray := prog_2_method_12_code
def yX0_findWithin : MethodName := ⟨RX0, "findWithin", "(IIII)I"⟩
abbrev cX0_holdsWithin : ByteArray := prog_2_method_13_code
def yX0_holdsWithin : MethodName := ⟨RX0, "holdsWithin", "(IIII)Z"⟩
abbrev cX0_keysNow : ByteArray := prog_2_method_14_code
def yX0_keysNow : MethodName := ⟨RX0, "keysNow", "()I"⟩
abbrev cX0_firstEventFrom : ByteArray := prog_2_method_15_code
def yX0_firstEventFrom : MethodName := ⟨RX0, "firstEventFrom", "(I)I"⟩
abbrev cX0_describe : ByteArray := prog_2_method_16_code
def yX0_describe : MethodName := ⟨RX0, "describe", "(II)I"⟩
abbrev cX1_init : ByteArray := prog_3_method_1_code
def yX1_init : MethodName := ⟨RX1, "<init>", "()V"⟩
abbrev cX1_append : ByteArray := prog_3_method_2_code
def yX1_append : MethodName := ⟨RX1, "append", "(IZJ)V"⟩
abbrev cX1_clear : ByteArray := prog_3_method_3_code
def yX1_clear : MethodName := ⟨RX1, "clear", "()V"⟩
abbrev cX1_eventsOn : ByteArray := prog_3_method_4_code
def yX1_eventsOn : MethodName := ⟨RX1, "eventsOn", "(LRevisionShelf$EventLog;)I"⟩
abbrev cX1_isThereBefore : ByteArray := prog_3_method_5_code
def yX1_isThereBefore : MethodName := ⟨RX1, "isThereBefore", "(ILRevisionShelf$EventLog;)Z"⟩
abbrev cX1_applyTo : ByteArray := prog_3_method_6_code
def yX1_applyTo : MethodName := ⟨RX1, "applyTo", "(LRevisionShelf$EventLog;)V"⟩
abbrev cX2_init : ByteArray := prog_4_method_1_code
def yX2_init : MethodName := ⟨RX2, "<init>", "()V"⟩
abbrev cX2_append : ByteArray := prog_4_method_2_code
def yX2_append : MethodName := ⟨RX2, "append", "(IIIJ)V"⟩
abbrev cX2_clear : ByteArray := prog_4_method_3_code
def yX2_clear : MethodName := ⟨RX2, "clear", "()V"⟩
abbrev cX2_allHold : ByteArray := prog_4_method_4_code
def yX2_allHold : MethodName := ⟨RX2, "allHold", "(LRevisionShelf$EventLog;)Z"⟩
abbrev cX2_holds : ByteArray := prog_4_method_5_code
def yX2_holds : MethodName := ⟨RX2, "holds", "(IJ)Z"⟩
abbrev cL_put : ByteArray := method_3_code
def yL_put : MethodName := ⟨RL, "put", "(LRevisionShelf;IJ[J)I"⟩
abbrev cL_remove : ByteArray := method_4_code
def yL_remove : MethodName := ⟨RL, "remove", "(LRevisionShelf;I[J)I"⟩
abbrev cL_test : ByteArray := method_5_code
def yL_test : MethodName := ⟨RL, "test", "(LRevisionShelf;IIIJ)I"⟩
abbrev cL_step : ByteArray := method_6_code
def yL_step : MethodName := ⟨RL, "step", "(LRevisionShelf;ZIZJ)I"⟩
abbrev cL_deal : ByteArray := method_7_code
def yL_deal : MethodName := ⟨RL, "deal", "(LRevisionShelf;[J)I"⟩
abbrev cL_get : ByteArray := method_8_code
def yL_get : MethodName := ⟨RL, "get", "(LRevisionShelf;II[J)I"⟩
abbrev cL_state : ByteArray := method_9_code
def yL_state : MethodName := ⟨RL, "state", "(LRevisionShelf;III[J)I"⟩
abbrev cL_many : ByteArray := method_10_code
def yL_many : MethodName := ⟨RL, "many", "(LRevisionShelf;III[J)I"⟩
abbrev cL_key : ByteArray := method_11_code
def yL_key : MethodName := ⟨RL, "key", "(LRevisionShelf;IIII[J)I"⟩
abbrev cL_compact : ByteArray := method_12_code
def yL_compact : MethodName := ⟨RL, "compact", "(LRevisionShelf;I)I"⟩
abbrev cL_event : ByteArray := method_13_code
def yL_event : MethodName := ⟨RL, "event", "(LRevisionShelf;III[J)I"⟩
abbrev cL_law : ByteArray := code
def yL_law : MethodName := ⟨RL, "law", "([I)Z"⟩
abbrev vwCl : List vw_C := [(RX0, TX0, 10), (RX1, TX1, 4), (RX2, TX2, 5), (RX3, TX3, 5), (RX4, TX4, 20)]
/-- the tables' good words: every method's own list is its code ahead of them -/
def wB : List Cond := lw_tbl.filter goodWord
theorem wB_tbl {w : Cond} (h : w ∈ wB) : w ∈ lw_tbl := (List.mem_filter.mp h).1
theorem wB_of {w : Cond} (i : Nat) (h : tables_1[i]? = some w) (g : goodWord w = true) : w ∈ wB := List.mem_filter.mpr ⟨List.mem_append_right _ (List.mem_of_getElem? h), g⟩
theorem wB_sel {w : Cond} (i : Nat) (h : (k2_sels lw_privs)[i]? = some w) (g : goodWord w = true) : w ∈ wB := List.mem_filter.mpr ⟨List.mem_append_left _ (List.mem_of_getElem? h), g⟩
theorem wB_ok {w : Cond} (h : w ∈ wB) : (w.onTables && w.keeps) = true ∨ ∃ ty, w = .arrayClass ty := good_of_word (List.mem_filter.mp h).2
theorem wB_in {c0 c1 : Cond} (h : c1 ∈ wB) : GoodIn (c0 :: wB) (c1 :: wB) := fun w hw => (List.mem_cons.mp hw).elim (fun e => by rw [e]; exact ⟨List.mem_cons_of_mem _ h, wB_ok h⟩) (fun hw => ⟨List.mem_cons_of_mem _ hw, wB_ok hw⟩)
theorem wB_inL {c1 : Cond} (h : c1 ∈ wB) : GoodIn lw_tbl (c1 :: wB) := fun w hw => (List.mem_cons.mp hw).elim (fun e => by rw [e]; exact ⟨wB_tbl h, wB_ok h⟩) (fun hw => ⟨wB_tbl hw, wB_ok hw⟩)
theorem wB_V {c0 c1 : Cond} {own C : String} {idx : Nat} {y : MethodName} (h1 : Cond.methodLink own idx y ∈ wB) (h2 : Cond.instanceMethod y ∈ wB) (h3 : Cond.selects C y y ∈ wB) (h4 : Cond.initialized C ∈ wB) (h5 : c1 ∈ wB) : GoodIn (c0 :: wB) (wsV own idx C y (c1 :: wB)) := by
  intro w hw
  have q : ∀ z, z ∈ wB → (z ∈ c0 :: wB) ∧ ((z.onTables && z.keeps) = true ∨ ∃ ty, z = .arrayClass ty) := fun z hz => ⟨List.mem_cons_of_mem _ hz, wB_ok hz⟩
  simp only [wsV, List.cons_append, List.nil_append, List.mem_cons] at hw
  rcases hw with rfl | rfl | rfl | rfl | rfl | hw
  · exact q _ h1
  · exact q _ h2
  · exact q _ h3
  · exact q _ h4
  · exact q _ h5
  · exact q _ hw
theorem wB_VL {c1 : Cond} {own C : String} {idx : Nat} {y : MethodName} (h1 : Cond.methodLink own idx y ∈ wB) (h2 : Cond.instanceMethod y ∈ wB) (h3 : Cond.selects C y y ∈ wB) (h4 : Cond.initialized C ∈ wB) (h5 : c1 ∈ wB) : GoodIn lw_tbl (wsV own idx C y (c1 :: wB)) := by
  intro w hw
  have q : ∀ z, z ∈ wB → (z ∈ lw_tbl) ∧ ((z.onTables && z.keeps) = true ∨ ∃ ty, z = .arrayClass ty) := fun z hz => ⟨wB_tbl hz, wB_ok hz⟩
  simp only [wsV, List.cons_append, List.nil_append, List.mem_cons] at hw
  rcases hw with rfl | rfl | rfl | rfl | rfl | hw
  · exact q _ h1
  · exact q _ h2
  · exact q _ h3
  · exact q _ h4
  · exact q _ h5
  · exact q _ hw
theorem wB_SL {c1 : Cond} {own : String} {idx : Nat} {y : MethodName} (h1 : Cond.methodLink own idx y ∈ wB) (h2 : Cond.static y ∈ wB) (h4 : Cond.initialized y.cls ∈ wB) (h5 : c1 ∈ wB) : GoodIn lw_tbl (va_wsS own idx y (c1 :: wB)) := by
  intro w hw
  have q : ∀ z, z ∈ wB → (z ∈ lw_tbl) ∧ ((z.onTables && z.keeps) = true ∨ ∃ ty, z = .arrayClass ty) := fun z hz => ⟨wB_tbl hz, wB_ok hz⟩
  simp only [va_wsS, List.cons_append, List.nil_append, List.mem_cons] at hw
  rcases hw with rfl | rfl | rfl | rfl | hw
  · exact q _ h1
  · exact q _ h2
  · exact q _ h4
  · exact q _ h5
  · exact q _ hw
theorem mw_0 : (Cond.initialized "RevisionShelfLaw") ∈ wB := wB_of 0 (by decide +kernel) (by decide +kernel)
theorem mw_1 : (Cond.initialized "RevisionShelf") ∈ wB := wB_of 1 (by decide +kernel) (by decide +kernel)
theorem mw_2 : (Cond.initialized "RevisionShelf$EventLog") ∈ wB := wB_of 2 (by decide +kernel) (by decide +kernel)
theorem mw_3 : (Cond.initialized "RevisionShelf$TestList") ∈ wB := wB_of 3 (by decide +kernel) (by decide +kernel)
theorem mw_4 : (Cond.initialized "RevisionShelf$StepList") ∈ wB := wB_of 4 (by decide +kernel) (by decide +kernel)
theorem mw_5 : (Cond.initialized "RevisionShelfModel") ∈ wB := wB_of 5 (by decide +kernel) (by decide +kernel)
theorem mw_6 : (Cond.initialized "java/lang/Throwable") ∈ wB := wB_of 6 (by decide +kernel) (by decide +kernel)
theorem mw_7 : (Cond.initialized "java/lang/Exception") ∈ wB := wB_of 7 (by decide +kernel) (by decide +kernel)
theorem mw_8 : (Cond.initialized "java/lang/RuntimeException") ∈ wB := wB_of 8 (by decide +kernel) (by decide +kernel)
theorem mw_9 : (Cond.initialized "java/lang/IndexOutOfBoundsException") ∈ wB := wB_of 9 (by decide +kernel) (by decide +kernel)
theorem mw_10 : (Cond.initialized "java/lang/IllegalArgumentException") ∈ wB := wB_of 10 (by decide +kernel) (by decide +kernel)
theorem mw_11 : (Cond.initialized "java/lang/IllegalStateException") ∈ wB := wB_of 11 (by decide +kernel) (by decide +kernel)
theorem mw_12 : (Cond.initialized "java/util/NoSuchElementException") ∈ wB := wB_of 12 (by decide +kernel) (by decide +kernel)
theorem mw_13 : (Cond.classLink "RevisionShelfLaw" 8 "RevisionShelf") ∈ wB := wB_of 13 (by decide +kernel) (by decide +kernel)
theorem mw_14 : (Cond.instantiable "RevisionShelf" 5) ∈ wB := wB_of 14 (by decide +kernel) (by decide +kernel)
theorem mw_15 : (Cond.methodLink "RevisionShelfLaw" 59 yX3_init) ∈ wB := wB_of 15 (by decide +kernel) (by decide +kernel)
theorem mw_16 : (Cond.instanceMethod yX3_init) ∈ wB := wB_of 16 (by decide +kernel) (by decide +kernel)
theorem mw_17 : (Cond.code yX3_init prog_1_method_1_code 1 none) ∈ wB := wB_of 17 (by decide +kernel) (by decide +kernel)
theorem mw_18 : (Cond.methodLink "RevisionShelf" 1 objectInit) ∈ wB := wB_of 18 (by decide +kernel) (by decide +kernel)
theorem mw_19 : (Cond.instanceMethod objectInit) ∈ wB := wB_of 19 (by decide +kernel) (by decide +kernel)
theorem mw_20 : (Cond.code objectInit object_method_1_code 1 none) ∈ wB := wB_of 20 (by decide +kernel) (by decide +kernel)
theorem mw_21 : (Cond.classLink "RevisionShelf" 7 "RevisionShelf$EventLog") ∈ wB := wB_of 21 (by decide +kernel) (by decide +kernel)
theorem mw_22 : (Cond.instantiable "RevisionShelf$EventLog" 10) ∈ wB := wB_of 22 (by decide +kernel) (by decide +kernel)
theorem mw_23 : (Cond.methodLink "RevisionShelf" 9 yX0_init) ∈ wB := wB_of 23 (by decide +kernel) (by decide +kernel)
theorem mw_24 : (Cond.instanceMethod yX0_init) ∈ wB := wB_of 24 (by decide +kernel) (by decide +kernel)
theorem mw_25 : (Cond.code yX0_init prog_2_method_1_code 1 none) ∈ wB := wB_of 25 (by decide +kernel) (by decide +kernel)
theorem mw_26 : (Cond.methodLink "RevisionShelf$EventLog" 3 objectInit) ∈ wB := wB_of 26 (by decide +kernel) (by decide +kernel)
theorem mw_27 : (Cond.fieldLink "RevisionShelf$EventLog" 9 "RevisionShelf$EventLog" "revision" "I") ∈ wB := wB_of 27 (by decide +kernel) (by decide +kernel)
theorem mw_28 : (Cond.fieldLink "RevisionShelf" 48 "RevisionShelf$EventLog" "revision" "I") ∈ wB := wB_of 28 (by decide +kernel) (by decide +kernel)
theorem mw_29 : (Cond.fieldLink "RevisionShelf$TestList" 29 "RevisionShelf$EventLog" "revision" "I") ∈ wB := wB_of 29 (by decide +kernel) (by decide +kernel)
theorem mw_30 : (Cond.fieldLink "RevisionShelf$EventLog" 15 "RevisionShelf$EventLog" "size" "I") ∈ wB := wB_of 30 (by decide +kernel) (by decide +kernel)
theorem mw_31 : (Cond.fieldLink "RevisionShelf" 125 "RevisionShelf$EventLog" "size" "I") ∈ wB := wB_of 31 (by decide +kernel) (by decide +kernel)
theorem mw_32 : (Cond.fieldLink "RevisionShelf$EventLog" 18 "RevisionShelf$EventLog" "keys" "[I") ∈ wB := wB_of 32 (by decide +kernel) (by decide +kernel)
theorem mw_33 : (Cond.fieldLink "RevisionShelf" 118 "RevisionShelf$EventLog" "keys" "[I") ∈ wB := wB_of 33 (by decide +kernel) (by decide +kernel)
theorem mw_34 : (Cond.fieldLink "RevisionShelf$EventLog" 22 "RevisionShelf$EventLog" "revisions" "[I") ∈ wB := wB_of 34 (by decide +kernel) (by decide +kernel)
theorem mw_35 : (Cond.fieldLink "RevisionShelf$EventLog" 25 "RevisionShelf$EventLog" "sets" "[Z") ∈ wB := wB_of 35 (by decide +kernel) (by decide +kernel)
theorem mw_36 : (Cond.fieldLink "RevisionShelf$EventLog" 29 "RevisionShelf$EventLog" "values" "[J") ∈ wB := wB_of 36 (by decide +kernel) (by decide +kernel)
theorem mw_37 : (Cond.fieldLink "RevisionShelf" 102 "RevisionShelf$EventLog" "values" "[J") ∈ wB := wB_of 37 (by decide +kernel) (by decide +kernel)
theorem mw_38 : (Cond.fieldLink "RevisionShelf$EventLog" 33 "RevisionShelf$EventLog" "versions" "[I") ∈ wB := wB_of 38 (by decide +kernel) (by decide +kernel)
theorem mw_39 : (Cond.fieldLink "RevisionShelf$EventLog" 36 "RevisionShelf$EventLog" "creations" "[I") ∈ wB := wB_of 39 (by decide +kernel) (by decide +kernel)
theorem mw_40 : (Cond.fieldLink "RevisionShelf$EventLog" 39 "RevisionShelf$EventLog" "replacedIn" "[I") ∈ wB := wB_of 40 (by decide +kernel) (by decide +kernel)
theorem mw_41 : (Cond.fieldLink "RevisionShelf$EventLog" 42 "RevisionShelf$EventLog" "byKey" "[I") ∈ wB := wB_of 41 (by decide +kernel) (by decide +kernel)
theorem mw_63 : (Cond.arrayClass FieldType.int) ∈ wB := wB_of 63 (by decide +kernel) (by decide +kernel)
theorem mw_64 : (Cond.arrayClass FieldType.boolean) ∈ wB := wB_of 64 (by decide +kernel) (by decide +kernel)
theorem mw_65 : (Cond.arrayClass FieldType.long) ∈ wB := wB_of 65 (by decide +kernel) (by decide +kernel)
theorem mw_66 : (Cond.classLink "RevisionShelf" 16 "RevisionShelf$TestList") ∈ wB := wB_of 66 (by decide +kernel) (by decide +kernel)
theorem mw_67 : (Cond.instantiable "RevisionShelf$TestList" 5) ∈ wB := wB_of 67 (by decide +kernel) (by decide +kernel)
theorem mw_68 : (Cond.methodLink "RevisionShelf" 18 yX2_init) ∈ wB := wB_of 68 (by decide +kernel) (by decide +kernel)
theorem mw_69 : (Cond.instanceMethod yX2_init) ∈ wB := wB_of 69 (by decide +kernel) (by decide +kernel)
theorem mw_70 : (Cond.code yX2_init prog_4_method_1_code 1 none) ∈ wB := wB_of 70 (by decide +kernel) (by decide +kernel)
theorem mw_71 : (Cond.methodLink "RevisionShelf$TestList" 3 objectInit) ∈ wB := wB_of 71 (by decide +kernel) (by decide +kernel)
theorem mw_72 : (Cond.fieldLink "RevisionShelf$TestList" 9 "RevisionShelf$TestList" "size" "I") ∈ wB := wB_of 72 (by decide +kernel) (by decide +kernel)
theorem mw_73 : (Cond.fieldLink "RevisionShelf" 61 "RevisionShelf$TestList" "size" "I") ∈ wB := wB_of 73 (by decide +kernel) (by decide +kernel)
theorem mw_74 : (Cond.fieldLink "RevisionShelf$TestList" 15 "RevisionShelf$TestList" "keys" "[I") ∈ wB := wB_of 74 (by decide +kernel) (by decide +kernel)
theorem mw_75 : (Cond.fieldLink "RevisionShelf$TestList" 19 "RevisionShelf$TestList" "whats" "[I") ∈ wB := wB_of 75 (by decide +kernel) (by decide +kernel)
theorem mw_76 : (Cond.fieldLink "RevisionShelf$TestList" 22 "RevisionShelf$TestList" "relations" "[I") ∈ wB := wB_of 76 (by decide +kernel) (by decide +kernel)
theorem mw_77 : (Cond.fieldLink "RevisionShelf$TestList" 25 "RevisionShelf$TestList" "bounds" "[J") ∈ wB := wB_of 77 (by decide +kernel) (by decide +kernel)
theorem mw_89 : (Cond.classLink "RevisionShelf" 23 "RevisionShelf$StepList") ∈ wB := wB_of 89 (by decide +kernel) (by decide +kernel)
theorem mw_90 : (Cond.instantiable "RevisionShelf$StepList" 4) ∈ wB := wB_of 90 (by decide +kernel) (by decide +kernel)
theorem mw_91 : (Cond.methodLink "RevisionShelf" 25 yX1_init) ∈ wB := wB_of 91 (by decide +kernel) (by decide +kernel)
theorem mw_92 : (Cond.instanceMethod yX1_init) ∈ wB := wB_of 92 (by decide +kernel) (by decide +kernel)
theorem mw_93 : (Cond.code yX1_init prog_3_method_1_code 1 none) ∈ wB := wB_of 93 (by decide +kernel) (by decide +kernel)
theorem mw_94 : (Cond.methodLink "RevisionShelf$StepList" 3 objectInit) ∈ wB := wB_of 94 (by decide +kernel) (by decide +kernel)
theorem mw_95 : (Cond.fieldLink "RevisionShelf$StepList" 9 "RevisionShelf$StepList" "size" "I") ∈ wB := wB_of 95 (by decide +kernel) (by decide +kernel)
theorem mw_96 : (Cond.fieldLink "RevisionShelf" 71 "RevisionShelf$StepList" "size" "I") ∈ wB := wB_of 96 (by decide +kernel) (by decide +kernel)
theorem mw_97 : (Cond.fieldLink "RevisionShelf$StepList" 15 "RevisionShelf$StepList" "keys" "[I") ∈ wB := wB_of 97 (by decide +kernel) (by decide +kernel)
theorem mw_98 : (Cond.fieldLink "RevisionShelf$StepList" 19 "RevisionShelf$StepList" "sets" "[Z") ∈ wB := wB_of 98 (by decide +kernel) (by decide +kernel)
theorem mw_99 : (Cond.fieldLink "RevisionShelf$StepList" 23 "RevisionShelf$StepList" "values" "[J") ∈ wB := wB_of 99 (by decide +kernel) (by decide +kernel)
theorem mw_109 : (Cond.fieldLink "RevisionShelf" 10 "RevisionShelf" "log" "LRevisionShelf$EventLog;") ∈ wB := wB_of 109 (by decide +kernel) (by decide +kernel)
theorem mw_110 : (Cond.fieldLink "RevisionShelf" 19 "RevisionShelf" "tests" "LRevisionShelf$TestList;") ∈ wB := wB_of 110 (by decide +kernel) (by decide +kernel)
theorem mw_111 : (Cond.fieldLink "RevisionShelf" 26 "RevisionShelf" "firstSteps" "LRevisionShelf$StepList;") ∈ wB := wB_of 111 (by decide +kernel) (by decide +kernel)
theorem mw_112 : (Cond.fieldLink "RevisionShelf" 30 "RevisionShelf" "secondSteps" "LRevisionShelf$StepList;") ∈ wB := wB_of 112 (by decide +kernel) (by decide +kernel)
theorem mw_113 : (Cond.fieldLink "RevisionShelf" 33 "RevisionShelf" "compacted" "I") ∈ wB := wB_of 113 (by decide +kernel) (by decide +kernel)
theorem mw_125 : (Cond.methodLink "RevisionShelfLaw" 112 yX3_count) ∈ wB := wB_of 125 (by decide +kernel) (by decide +kernel)
theorem mw_126 : (Cond.instanceMethod yX3_count) ∈ wB := wB_of 126 (by decide +kernel) (by decide +kernel)
theorem mw_127 : (Cond.selects "RevisionShelf" yX3_count yX3_count) ∈ wB := wB_of 127 (by decide +kernel) (by decide +kernel)
theorem mw_128 : (Cond.code yX3_count prog_1_method_13_code 2 (some .int)) ∈ wB := wB_of 128 (by decide +kernel) (by decide +kernel)
theorem mw_129 : (Cond.methodLink "RevisionShelf" 129 yX0_keysNow) ∈ wB := wB_of 129 (by decide +kernel) (by decide +kernel)
theorem mw_130 : (Cond.instanceMethod yX0_keysNow) ∈ wB := wB_of 130 (by decide +kernel) (by decide +kernel)
theorem mw_131 : (Cond.selects "RevisionShelf$EventLog" yX0_keysNow yX0_keysNow) ∈ wB := wB_of 131 (by decide +kernel) (by decide +kernel)
theorem mw_132 : (Cond.code yX0_keysNow prog_2_method_14_code 3 (some .int)) ∈ wB := wB_of 132 (by decide +kernel) (by decide +kernel)
theorem mw_133 : (Cond.methodLink "RevisionShelf$EventLog" 56 yX0_holds) ∈ wB := wB_of 133 (by decide +kernel) (by decide +kernel)
theorem mw_135 : (Cond.instanceMethod yX0_holds) ∈ wB := wB_of 135 (by decide +kernel) (by decide +kernel)
theorem mw_136 : (Cond.code yX0_holds prog_2_method_9_code 3 (some .boolean)) ∈ wB := wB_of 136 (by decide +kernel) (by decide +kernel)
theorem mw_137 : (Cond.methodLink "RevisionShelfLaw" 65 yL_put) ∈ wB := wB_of 137 (by decide +kernel) (by decide +kernel)
theorem mw_138 : (Cond.static yL_put) ∈ wB := wB_of 138 (by decide +kernel) (by decide +kernel)
theorem mw_139 : (Cond.codeWith yL_put method_3_code 6 (some .int) [(0, 11, 14, 13)]) ∈ wB := wB_of 139 (by decide +kernel) (by decide +kernel)
theorem mw_140 : (Cond.classLink "RevisionShelfLaw" 13 "java/lang/IndexOutOfBoundsException") ∈ wB := wB_of 140 (by decide +kernel) (by decide +kernel)
theorem mw_141 : (Cond.methodLink "RevisionShelfLaw" 7 yX3_put) ∈ wB := wB_of 141 (by decide +kernel) (by decide +kernel)
theorem mw_142 : (Cond.instanceMethod yX3_put) ∈ wB := wB_of 142 (by decide +kernel) (by decide +kernel)
theorem mw_143 : (Cond.selects "RevisionShelf" yX3_put yX3_put) ∈ wB := wB_of 143 (by decide +kernel) (by decide +kernel)
theorem mw_144 : (Cond.code yX3_put prog_1_method_2_code 4 (some .int)) ∈ wB := wB_of 144 (by decide +kernel) (by decide +kernel)
theorem mw_145 : (Cond.methodLink "RevisionShelf" 37 yX3_refuseIfFull) ∈ wB := wB_of 145 (by decide +kernel) (by decide +kernel)
theorem mw_147 : (Cond.instanceMethod yX3_refuseIfFull) ∈ wB := wB_of 147 (by decide +kernel) (by decide +kernel)
theorem mw_148 : (Cond.code yX3_refuseIfFull prog_1_method_14_code 2 none) ∈ wB := wB_of 148 (by decide +kernel) (by decide +kernel)
theorem mw_149 : (Cond.classLink "RevisionShelf" 133 "java/lang/IndexOutOfBoundsException") ∈ wB := wB_of 149 (by decide +kernel) (by decide +kernel)
theorem mw_150 : (Cond.instantiable "java/lang/IndexOutOfBoundsException" 6) ∈ wB := wB_of 150 (by decide +kernel) (by decide +kernel)
theorem mw_158 : (Cond.selects "java/lang/IndexOutOfBoundsException" (⟨"java/lang/Throwable", "fillInStackTrace", "(I)Ljava/lang/Throwable;"⟩ : MethodName) (⟨"java/lang/Throwable", "fillInStackTrace", "(I)Ljava/lang/Throwable;"⟩ : MethodName)) ∈ wB := wB_of 158 (by decide +kernel) (by decide +kernel)
theorem mw_159 : (Cond.selects "java/lang/IndexOutOfBoundsException" (⟨"java/lang/Throwable", "fillInStackTrace", "()Ljava/lang/Throwable;"⟩ : MethodName) (⟨"java/lang/Throwable", "fillInStackTrace", "()Ljava/lang/Throwable;"⟩ : MethodName)) ∈ wB := wB_of 159 (by decide +kernel) (by decide +kernel)
theorem mw_170 : (Cond.fieldLink "java/lang/Throwable" 198 "java/lang/Throwable" "backtrace" "Ljava/lang/Object;") ∈ wB := wB_of 170 (by decide +kernel) (by decide +kernel)
theorem mw_172 : (Cond.instanceMethod (⟨"java/lang/Throwable", "<init>", "()V"⟩ : MethodName)) ∈ wB := wB_of 172 (by decide +kernel) (by decide +kernel)
theorem mw_173 : (Cond.code (⟨"java/lang/Throwable", "<init>", "()V"⟩ : MethodName) prog_12_method_1_code 1 none) ∈ wB := wB_of 173 (by decide +kernel) (by decide +kernel)
theorem mw_174 : (Cond.methodLink "java/lang/Throwable" 1 objectInit) ∈ wB := wB_of 174 (by decide +kernel) (by decide +kernel)
theorem mw_175 : (Cond.fieldLink "java/lang/Throwable" 13 "java/lang/Throwable" "UNASSIGNED_STACK" "[Ljava/lang/StackTraceElement;") ∈ wB := wB_of 175 (by decide +kernel) (by decide +kernel)
theorem mw_177 : (Cond.fieldLink "java/lang/Throwable" 20 "java/lang/Throwable" "SUPPRESSED_SENTINEL" "Ljava/util/List;") ∈ wB := wB_of 177 (by decide +kernel) (by decide +kernel)
theorem mw_179 : (Cond.methodLink "java/lang/Throwable" 27 (⟨"java/lang/Throwable", "fillInStackTrace", "()Ljava/lang/Throwable;"⟩ : MethodName)) ∈ wB := wB_of 179 (by decide +kernel) (by decide +kernel)
theorem mw_180 : (Cond.instanceMethod (⟨"java/lang/Throwable", "fillInStackTrace", "()Ljava/lang/Throwable;"⟩ : MethodName)) ∈ wB := wB_of 180 (by decide +kernel) (by decide +kernel)
theorem mw_182 : (Cond.selects "java/lang/IllegalArgumentException" (⟨"java/lang/Throwable", "fillInStackTrace", "()Ljava/lang/Throwable;"⟩ : MethodName) (⟨"java/lang/Throwable", "fillInStackTrace", "()Ljava/lang/Throwable;"⟩ : MethodName)) ∈ wB := wB_of 182 (by decide +kernel) (by decide +kernel)
theorem mw_183 : (Cond.selects "java/lang/IllegalStateException" (⟨"java/lang/Throwable", "fillInStackTrace", "()Ljava/lang/Throwable;"⟩ : MethodName) (⟨"java/lang/Throwable", "fillInStackTrace", "()Ljava/lang/Throwable;"⟩ : MethodName)) ∈ wB := wB_of 183 (by decide +kernel) (by decide +kernel)
theorem mw_184 : (Cond.selects "java/util/NoSuchElementException" (⟨"java/lang/Throwable", "fillInStackTrace", "()Ljava/lang/Throwable;"⟩ : MethodName) (⟨"java/lang/Throwable", "fillInStackTrace", "()Ljava/lang/Throwable;"⟩ : MethodName)) ∈ wB := wB_of 184 (by decide +kernel) (by decide +kernel)
theorem mw_186 : (Cond.methodLink "java/lang/Throwable" 202 (⟨"java/lang/Throwable", "fillInStackTrace", "(I)Ljava/lang/Throwable;"⟩ : MethodName)) ∈ wB := wB_of 186 (by decide +kernel) (by decide +kernel)
theorem mw_188 : (Cond.instanceMethod (⟨"java/lang/Throwable", "fillInStackTrace", "(I)Ljava/lang/Throwable;"⟩ : MethodName)) ∈ wB := wB_of 188 (by decide +kernel) (by decide +kernel)
theorem mw_189 : (Cond.instantiable "java/lang/Throwable" 6) ∈ wB := wB_of 189 (by decide +kernel) (by decide +kernel)
theorem mw_191 : (Cond.methodLink "RevisionShelf" 135 (⟨"java/lang/IndexOutOfBoundsException", "<init>", "()V"⟩ : MethodName)) ∈ wB := wB_of 191 (by decide +kernel) (by decide +kernel)
theorem mw_192 : (Cond.instanceMethod (⟨"java/lang/IndexOutOfBoundsException", "<init>", "()V"⟩ : MethodName)) ∈ wB := wB_of 192 (by decide +kernel) (by decide +kernel)
theorem mw_193 : (Cond.code (⟨"java/lang/IndexOutOfBoundsException", "<init>", "()V"⟩ : MethodName) prog_10_method_1_code 1 none) ∈ wB := wB_of 193 (by decide +kernel) (by decide +kernel)
theorem mw_194 : (Cond.methodLink "java/lang/IndexOutOfBoundsException" 1 (⟨"java/lang/RuntimeException", "<init>", "()V"⟩ : MethodName)) ∈ wB := wB_of 194 (by decide +kernel) (by decide +kernel)
theorem mw_195 : (Cond.instanceMethod (⟨"java/lang/RuntimeException", "<init>", "()V"⟩ : MethodName)) ∈ wB := wB_of 195 (by decide +kernel) (by decide +kernel)
theorem mw_196 : (Cond.code (⟨"java/lang/RuntimeException", "<init>", "()V"⟩ : MethodName) prog_11_method_1_code 1 none) ∈ wB := wB_of 196 (by decide +kernel) (by decide +kernel)
theorem mw_197 : (Cond.methodLink "java/lang/RuntimeException" 1 (⟨"java/lang/Exception", "<init>", "()V"⟩ : MethodName)) ∈ wB := wB_of 197 (by decide +kernel) (by decide +kernel)
theorem mw_198 : (Cond.instanceMethod (⟨"java/lang/Exception", "<init>", "()V"⟩ : MethodName)) ∈ wB := wB_of 198 (by decide +kernel) (by decide +kernel)
theorem mw_199 : (Cond.code (⟨"java/lang/Exception", "<init>", "()V"⟩ : MethodName) prog_7_method_1_code 1 none) ∈ wB := wB_of 199 (by decide +kernel) (by decide +kernel)
theorem mw_200 : (Cond.methodLink "java/lang/Exception" 1 (⟨"java/lang/Throwable", "<init>", "()V"⟩ : MethodName)) ∈ wB := wB_of 200 (by decide +kernel) (by decide +kernel)
theorem mw_201 : (Cond.fieldLink "java/lang/Throwable" 198 "java/lang/Throwable" "backtrace" "Ljava/lang/Object;") ∈ wB := wB_of 201 (by decide +kernel) (by decide +kernel)
theorem mw_202 : (Cond.fieldLink "java/lang/Throwable" 7 "java/lang/Throwable" "cause" "Ljava/lang/Throwable;") ∈ wB := wB_of 202 (by decide +kernel) (by decide +kernel)
theorem mw_203 : (Cond.fieldLink "java/lang/Throwable" 17 "java/lang/Throwable" "stackTrace" "[Ljava/lang/StackTraceElement;") ∈ wB := wB_of 203 (by decide +kernel) (by decide +kernel)
theorem mw_204 : (Cond.fieldLink "java/lang/Throwable" 24 "java/lang/Throwable" "suppressedExceptions" "Ljava/util/List;") ∈ wB := wB_of 204 (by decide +kernel) (by decide +kernel)
theorem mw_213 : (Cond.methodLink "RevisionShelf" 41 yX0_openRevision) ∈ wB := wB_of 213 (by decide +kernel) (by decide +kernel)
theorem mw_214 : (Cond.instanceMethod yX0_openRevision) ∈ wB := wB_of 214 (by decide +kernel) (by decide +kernel)
theorem mw_215 : (Cond.selects "RevisionShelf$EventLog" yX0_openRevision yX0_openRevision) ∈ wB := wB_of 215 (by decide +kernel) (by decide +kernel)
theorem mw_216 : (Cond.code yX0_openRevision prog_2_method_2_code 1 none) ∈ wB := wB_of 216 (by decide +kernel) (by decide +kernel)
theorem mw_217 : (Cond.methodLink "RevisionShelf" 44 yX0_appendSet) ∈ wB := wB_of 217 (by decide +kernel) (by decide +kernel)
theorem mw_218 : (Cond.instanceMethod yX0_appendSet) ∈ wB := wB_of 218 (by decide +kernel) (by decide +kernel)
theorem mw_219 : (Cond.selects "RevisionShelf$EventLog" yX0_appendSet yX0_appendSet) ∈ wB := wB_of 219 (by decide +kernel) (by decide +kernel)
theorem mw_220 : (Cond.code yX0_appendSet prog_2_method_3_code 6 none) ∈ wB := wB_of 220 (by decide +kernel) (by decide +kernel)
theorem mw_221 : (Cond.methodLink "RevisionShelf$EventLog" 45 yX0_find) ∈ wB := wB_of 221 (by decide +kernel) (by decide +kernel)
theorem mw_222 : (Cond.instanceMethod yX0_find) ∈ wB := wB_of 222 (by decide +kernel) (by decide +kernel)
theorem mw_223 : (Cond.selects "RevisionShelf$EventLog" yX0_find yX0_find) ∈ wB := wB_of 223 (by decide +kernel) (by decide +kernel)
theorem mw_224 : (Cond.code yX0_find prog_2_method_8_code 4 (some .int)) ∈ wB := wB_of 224 (by decide +kernel) (by decide +kernel)
theorem mw_225 : (Cond.methodLink "RevisionShelf$EventLog" 49 yX0_append) ∈ wB := wB_of 225 (by decide +kernel) (by decide +kernel)
theorem mw_227 : (Cond.instanceMethod yX0_append) ∈ wB := wB_of 227 (by decide +kernel) (by decide +kernel)
theorem mw_228 : (Cond.code yX0_append prog_2_method_5_code 4 (some .int)) ∈ wB := wB_of 228 (by decide +kernel) (by decide +kernel)
theorem mw_229 : (Cond.methodLink "RevisionShelf$EventLog" 52 yX0_sortIn) ∈ wB := wB_of 229 (by decide +kernel) (by decide +kernel)
theorem mw_231 : (Cond.instanceMethod yX0_sortIn) ∈ wB := wB_of 231 (by decide +kernel) (by decide +kernel)
theorem mw_232 : (Cond.code yX0_sortIn prog_2_method_6_code 3 none) ∈ wB := wB_of 232 (by decide +kernel) (by decide +kernel)
theorem mw_233 : (Cond.methodLink "RevisionShelfLaw" 74 yL_remove) ∈ wB := wB_of 233 (by decide +kernel) (by decide +kernel)
theorem mw_234 : (Cond.static yL_remove) ∈ wB := wB_of 234 (by decide +kernel) (by decide +kernel)
theorem mw_235 : (Cond.codeWith yL_remove method_4_code 4 (some .int) [(0, 9, 12, 13)]) ∈ wB := wB_of 235 (by decide +kernel) (by decide +kernel)
theorem mw_236 : (Cond.methodLink "RevisionShelfLaw" 15 yX3_remove) ∈ wB := wB_of 236 (by decide +kernel) (by decide +kernel)
theorem mw_237 : (Cond.instanceMethod yX3_remove) ∈ wB := wB_of 237 (by decide +kernel) (by decide +kernel)
theorem mw_238 : (Cond.selects "RevisionShelf" yX3_remove yX3_remove) ∈ wB := wB_of 238 (by decide +kernel) (by decide +kernel)
theorem mw_239 : (Cond.code yX3_remove prog_1_method_3_code 2 (some .int)) ∈ wB := wB_of 239 (by decide +kernel) (by decide +kernel)
theorem mw_240 : (Cond.methodLink "RevisionShelf" 51 yX0_isThere) ∈ wB := wB_of 240 (by decide +kernel) (by decide +kernel)
theorem mw_241 : (Cond.instanceMethod yX0_isThere) ∈ wB := wB_of 241 (by decide +kernel) (by decide +kernel)
theorem mw_242 : (Cond.selects "RevisionShelf$EventLog" yX0_isThere yX0_isThere) ∈ wB := wB_of 242 (by decide +kernel) (by decide +kernel)
theorem mw_243 : (Cond.code yX0_isThere prog_2_method_7_code 2 (some .boolean)) ∈ wB := wB_of 243 (by decide +kernel) (by decide +kernel)
theorem mw_244 : (Cond.methodLink "RevisionShelf" 55 yX0_appendRemoval) ∈ wB := wB_of 244 (by decide +kernel) (by decide +kernel)
theorem mw_245 : (Cond.instanceMethod yX0_appendRemoval) ∈ wB := wB_of 245 (by decide +kernel) (by decide +kernel)
theorem mw_246 : (Cond.selects "RevisionShelf$EventLog" yX0_appendRemoval yX0_appendRemoval) ∈ wB := wB_of 246 (by decide +kernel) (by decide +kernel)
theorem mw_247 : (Cond.code yX0_appendRemoval prog_2_method_4_code 3 none) ∈ wB := wB_of 247 (by decide +kernel) (by decide +kernel)
theorem mw_248 : (Cond.methodLink "RevisionShelfLaw" 78 yL_test) ∈ wB := wB_of 248 (by decide +kernel) (by decide +kernel)
theorem mw_249 : (Cond.static yL_test) ∈ wB := wB_of 249 (by decide +kernel) (by decide +kernel)
theorem mw_250 : (Cond.codeWith yL_test method_5_code 7 (some .int) [(0, 9, 12, 23), (0, 9, 16, 25)]) ∈ wB := wB_of 250 (by decide +kernel) (by decide +kernel)
theorem mw_251 : (Cond.classLink "RevisionShelfLaw" 23 "java/lang/IllegalArgumentException") ∈ wB := wB_of 251 (by decide +kernel) (by decide +kernel)
theorem mw_252 : (Cond.classLink "RevisionShelfLaw" 25 "java/lang/IllegalStateException") ∈ wB := wB_of 252 (by decide +kernel) (by decide +kernel)
theorem mw_253 : (Cond.methodLink "RevisionShelfLaw" 19 yX3_test) ∈ wB := wB_of 253 (by decide +kernel) (by decide +kernel)
theorem mw_254 : (Cond.instanceMethod yX3_test) ∈ wB := wB_of 254 (by decide +kernel) (by decide +kernel)
theorem mw_255 : (Cond.selects "RevisionShelf" yX3_test yX3_test) ∈ wB := wB_of 255 (by decide +kernel) (by decide +kernel)
theorem mw_256 : (Cond.code yX3_test prog_1_method_4_code 6 none) ∈ wB := wB_of 256 (by decide +kernel) (by decide +kernel)
theorem mw_257 : (Cond.classLink "RevisionShelf" 58 "java/lang/IllegalArgumentException") ∈ wB := wB_of 257 (by decide +kernel) (by decide +kernel)
theorem mw_258 : (Cond.instantiable "java/lang/IllegalArgumentException" 6) ∈ wB := wB_of 258 (by decide +kernel) (by decide +kernel)
theorem mw_260 : (Cond.selects "java/lang/IllegalArgumentException" (⟨"java/lang/Throwable", "fillInStackTrace", "(I)Ljava/lang/Throwable;"⟩ : MethodName) (⟨"java/lang/Throwable", "fillInStackTrace", "(I)Ljava/lang/Throwable;"⟩ : MethodName)) ∈ wB := wB_of 260 (by decide +kernel) (by decide +kernel)
theorem mw_266 : (Cond.methodLink "RevisionShelf" 60 (⟨"java/lang/IllegalArgumentException", "<init>", "()V"⟩ : MethodName)) ∈ wB := wB_of 266 (by decide +kernel) (by decide +kernel)
theorem mw_267 : (Cond.instanceMethod (⟨"java/lang/IllegalArgumentException", "<init>", "()V"⟩ : MethodName)) ∈ wB := wB_of 267 (by decide +kernel) (by decide +kernel)
theorem mw_268 : (Cond.code (⟨"java/lang/IllegalArgumentException", "<init>", "()V"⟩ : MethodName) prog_8_method_1_code 1 none) ∈ wB := wB_of 268 (by decide +kernel) (by decide +kernel)
theorem mw_269 : (Cond.methodLink "java/lang/IllegalArgumentException" 1 (⟨"java/lang/RuntimeException", "<init>", "()V"⟩ : MethodName)) ∈ wB := wB_of 269 (by decide +kernel) (by decide +kernel)
theorem mw_272 : (Cond.classLink "RevisionShelf" 64 "java/lang/IllegalStateException") ∈ wB := wB_of 272 (by decide +kernel) (by decide +kernel)
theorem mw_273 : (Cond.instantiable "java/lang/IllegalStateException" 6) ∈ wB := wB_of 273 (by decide +kernel) (by decide +kernel)
theorem mw_275 : (Cond.selects "java/lang/IllegalStateException" (⟨"java/lang/Throwable", "fillInStackTrace", "(I)Ljava/lang/Throwable;"⟩ : MethodName) (⟨"java/lang/Throwable", "fillInStackTrace", "(I)Ljava/lang/Throwable;"⟩ : MethodName)) ∈ wB := wB_of 275 (by decide +kernel) (by decide +kernel)
theorem mw_281 : (Cond.methodLink "RevisionShelf" 66 (⟨"java/lang/IllegalStateException", "<init>", "()V"⟩ : MethodName)) ∈ wB := wB_of 281 (by decide +kernel) (by decide +kernel)
theorem mw_282 : (Cond.instanceMethod (⟨"java/lang/IllegalStateException", "<init>", "()V"⟩ : MethodName)) ∈ wB := wB_of 282 (by decide +kernel) (by decide +kernel)
theorem mw_283 : (Cond.code (⟨"java/lang/IllegalStateException", "<init>", "()V"⟩ : MethodName) prog_9_method_1_code 1 none) ∈ wB := wB_of 283 (by decide +kernel) (by decide +kernel)
theorem mw_284 : (Cond.methodLink "java/lang/IllegalStateException" 1 (⟨"java/lang/RuntimeException", "<init>", "()V"⟩ : MethodName)) ∈ wB := wB_of 284 (by decide +kernel) (by decide +kernel)
theorem mw_287 : (Cond.methodLink "RevisionShelf" 67 yX2_append) ∈ wB := wB_of 287 (by decide +kernel) (by decide +kernel)
theorem mw_288 : (Cond.instanceMethod yX2_append) ∈ wB := wB_of 288 (by decide +kernel) (by decide +kernel)
theorem mw_289 : (Cond.selects "RevisionShelf$TestList" yX2_append yX2_append) ∈ wB := wB_of 289 (by decide +kernel) (by decide +kernel)
theorem mw_290 : (Cond.code yX2_append prog_4_method_2_code 6 none) ∈ wB := wB_of 290 (by decide +kernel) (by decide +kernel)
theorem mw_291 : (Cond.methodLink "RevisionShelfLaw" 82 yL_step) ∈ wB := wB_of 291 (by decide +kernel) (by decide +kernel)
theorem mw_292 : (Cond.static yL_step) ∈ wB := wB_of 292 (by decide +kernel) (by decide +kernel)
theorem mw_293 : (Cond.codeWith yL_step method_6_code 7 (some .int) [(0, 9, 12, 25)]) ∈ wB := wB_of 293 (by decide +kernel) (by decide +kernel)
theorem mw_294 : (Cond.methodLink "RevisionShelfLaw" 27 yX3_step) ∈ wB := wB_of 294 (by decide +kernel) (by decide +kernel)
theorem mw_295 : (Cond.instanceMethod yX3_step) ∈ wB := wB_of 295 (by decide +kernel) (by decide +kernel)
theorem mw_296 : (Cond.selects "RevisionShelf" yX3_step yX3_step) ∈ wB := wB_of 296 (by decide +kernel) (by decide +kernel)
theorem mw_297 : (Cond.code yX3_step prog_1_method_5_code 7 none) ∈ wB := wB_of 297 (by decide +kernel) (by decide +kernel)
theorem mw_298 : (Cond.methodLink "RevisionShelf" 72 yX1_append) ∈ wB := wB_of 298 (by decide +kernel) (by decide +kernel)
theorem mw_299 : (Cond.instanceMethod yX1_append) ∈ wB := wB_of 299 (by decide +kernel) (by decide +kernel)
theorem mw_300 : (Cond.selects "RevisionShelf$StepList" yX1_append yX1_append) ∈ wB := wB_of 300 (by decide +kernel) (by decide +kernel)
theorem mw_301 : (Cond.code yX1_append prog_3_method_2_code 5 none) ∈ wB := wB_of 301 (by decide +kernel) (by decide +kernel)
theorem mw_302 : (Cond.methodLink "RevisionShelfLaw" 86 yL_deal) ∈ wB := wB_of 302 (by decide +kernel) (by decide +kernel)
theorem mw_303 : (Cond.static yL_deal) ∈ wB := wB_of 303 (by decide +kernel) (by decide +kernel)
theorem mw_304 : (Cond.codeWith yL_deal method_7_code 3 (some .int) [(0, 8, 11, 13)]) ∈ wB := wB_of 304 (by decide +kernel) (by decide +kernel)
theorem mw_305 : (Cond.methodLink "RevisionShelfLaw" 31 yX3_deal) ∈ wB := wB_of 305 (by decide +kernel) (by decide +kernel)
theorem mw_306 : (Cond.instanceMethod yX3_deal) ∈ wB := wB_of 306 (by decide +kernel) (by decide +kernel)
theorem mw_307 : (Cond.selects "RevisionShelf" yX3_deal yX3_deal) ∈ wB := wB_of 307 (by decide +kernel) (by decide +kernel)
theorem mw_308 : (Cond.code yX3_deal prog_1_method_6_code 4 (some .int)) ∈ wB := wB_of 308 (by decide +kernel) (by decide +kernel)
theorem mw_309 : (Cond.methodLink "RevisionShelf" 75 yX2_allHold) ∈ wB := wB_of 309 (by decide +kernel) (by decide +kernel)
theorem mw_310 : (Cond.instanceMethod yX2_allHold) ∈ wB := wB_of 310 (by decide +kernel) (by decide +kernel)
theorem mw_311 : (Cond.selects "RevisionShelf$TestList" yX2_allHold yX2_allHold) ∈ wB := wB_of 311 (by decide +kernel) (by decide +kernel)
theorem mw_312 : (Cond.code yX2_allHold prog_4_method_4_code 3 (some .boolean)) ∈ wB := wB_of 312 (by decide +kernel) (by decide +kernel)
theorem mw_313 : (Cond.methodLink "RevisionShelf$TestList" 34 yX0_read) ∈ wB := wB_of 313 (by decide +kernel) (by decide +kernel)
theorem mw_314 : (Cond.instanceMethod yX0_read) ∈ wB := wB_of 314 (by decide +kernel) (by decide +kernel)
theorem mw_315 : (Cond.selects "RevisionShelf$EventLog" yX0_read yX0_read) ∈ wB := wB_of 315 (by decide +kernel) (by decide +kernel)
theorem mw_316 : (Cond.code yX0_read prog_2_method_10_code 5 (some .long)) ∈ wB := wB_of 316 (by decide +kernel) (by decide +kernel)
theorem mw_317 : (Cond.methodLink "RevisionShelf$TestList" 38 yX2_holds) ∈ wB := wB_of 317 (by decide +kernel) (by decide +kernel)
theorem mw_319 : (Cond.instanceMethod yX2_holds) ∈ wB := wB_of 319 (by decide +kernel) (by decide +kernel)
theorem mw_320 : (Cond.code yX2_holds prog_4_method_5_code 4 (some .boolean)) ∈ wB := wB_of 320 (by decide +kernel) (by decide +kernel)
theorem mw_321 : (Cond.methodLink "RevisionShelf" 79 yX1_eventsOn) ∈ wB := wB_of 321 (by decide +kernel) (by decide +kernel)
theorem mw_322 : (Cond.instanceMethod yX1_eventsOn) ∈ wB := wB_of 322 (by decide +kernel) (by decide +kernel)
theorem mw_323 : (Cond.selects "RevisionShelf$StepList" yX1_eventsOn yX1_eventsOn) ∈ wB := wB_of 323 (by decide +kernel) (by decide +kernel)
theorem mw_324 : (Cond.code yX1_eventsOn prog_3_method_4_code 4 (some .int)) ∈ wB := wB_of 324 (by decide +kernel) (by decide +kernel)
theorem mw_325 : (Cond.methodLink "RevisionShelf$StepList" 27 yX1_isThereBefore) ∈ wB := wB_of 325 (by decide +kernel) (by decide +kernel)
theorem mw_327 : (Cond.instanceMethod yX1_isThereBefore) ∈ wB := wB_of 327 (by decide +kernel) (by decide +kernel)
theorem mw_328 : (Cond.code yX1_isThereBefore prog_3_method_5_code 4 (some .boolean)) ∈ wB := wB_of 328 (by decide +kernel) (by decide +kernel)
theorem mw_329 : (Cond.methodLink "RevisionShelf$StepList" 31 yX0_isThere) ∈ wB := wB_of 329 (by decide +kernel) (by decide +kernel)
theorem mw_330 : (Cond.methodLink "RevisionShelf" 83 yX1_applyTo) ∈ wB := wB_of 330 (by decide +kernel) (by decide +kernel)
theorem mw_331 : (Cond.instanceMethod yX1_applyTo) ∈ wB := wB_of 331 (by decide +kernel) (by decide +kernel)
theorem mw_332 : (Cond.selects "RevisionShelf$StepList" yX1_applyTo yX1_applyTo) ∈ wB := wB_of 332 (by decide +kernel) (by decide +kernel)
theorem mw_333 : (Cond.code yX1_applyTo prog_3_method_6_code 3 none) ∈ wB := wB_of 333 (by decide +kernel) (by decide +kernel)
theorem mw_334 : (Cond.methodLink "RevisionShelf$StepList" 37 yX0_appendSet) ∈ wB := wB_of 334 (by decide +kernel) (by decide +kernel)
theorem mw_335 : (Cond.methodLink "RevisionShelf$StepList" 41 yX0_appendRemoval) ∈ wB := wB_of 335 (by decide +kernel) (by decide +kernel)
theorem mw_336 : (Cond.methodLink "RevisionShelf" 87 yX2_clear) ∈ wB := wB_of 336 (by decide +kernel) (by decide +kernel)
theorem mw_337 : (Cond.instanceMethod yX2_clear) ∈ wB := wB_of 337 (by decide +kernel) (by decide +kernel)
theorem mw_338 : (Cond.selects "RevisionShelf$TestList" yX2_clear yX2_clear) ∈ wB := wB_of 338 (by decide +kernel) (by decide +kernel)
theorem mw_339 : (Cond.code yX2_clear prog_4_method_3_code 1 none) ∈ wB := wB_of 339 (by decide +kernel) (by decide +kernel)
theorem mw_340 : (Cond.methodLink "RevisionShelf" 90 yX1_clear) ∈ wB := wB_of 340 (by decide +kernel) (by decide +kernel)
theorem mw_341 : (Cond.instanceMethod yX1_clear) ∈ wB := wB_of 341 (by decide +kernel) (by decide +kernel)
theorem mw_342 : (Cond.selects "RevisionShelf$StepList" yX1_clear yX1_clear) ∈ wB := wB_of 342 (by decide +kernel) (by decide +kernel)
theorem mw_343 : (Cond.code yX1_clear prog_3_method_3_code 1 none) ∈ wB := wB_of 343 (by decide +kernel) (by decide +kernel)
theorem mw_344 : (Cond.methodLink "RevisionShelfLaw" 90 yL_get) ∈ wB := wB_of 344 (by decide +kernel) (by decide +kernel)
theorem mw_345 : (Cond.static yL_get) ∈ wB := wB_of 345 (by decide +kernel) (by decide +kernel)
theorem mw_346 : (Cond.codeWith yL_get method_8_code 5 (some .int) [(0, 9, 12, 23), (0, 9, 16, 25), (0, 9, 20, 39)]) ∈ wB := wB_of 346 (by decide +kernel) (by decide +kernel)
theorem mw_347 : (Cond.classLink "RevisionShelfLaw" 39 "java/util/NoSuchElementException") ∈ wB := wB_of 347 (by decide +kernel) (by decide +kernel)
theorem mw_348 : (Cond.methodLink "RevisionShelfLaw" 35 yX3_get) ∈ wB := wB_of 348 (by decide +kernel) (by decide +kernel)
theorem mw_349 : (Cond.instanceMethod yX3_get) ∈ wB := wB_of 349 (by decide +kernel) (by decide +kernel)
theorem mw_350 : (Cond.selects "RevisionShelf" yX3_get yX3_get) ∈ wB := wB_of 350 (by decide +kernel) (by decide +kernel)
theorem mw_351 : (Cond.code yX3_get prog_1_method_7_code 4 (some .long)) ∈ wB := wB_of 351 (by decide +kernel) (by decide +kernel)
theorem mw_352 : (Cond.methodLink "RevisionShelf" 91 yX3_readingRevision) ∈ wB := wB_of 352 (by decide +kernel) (by decide +kernel)
theorem mw_354 : (Cond.instanceMethod yX3_readingRevision) ∈ wB := wB_of 354 (by decide +kernel) (by decide +kernel)
theorem mw_355 : (Cond.code yX3_readingRevision prog_1_method_15_code 2 (some .int)) ∈ wB := wB_of 355 (by decide +kernel) (by decide +kernel)
theorem mw_356 : (Cond.methodLink "RevisionShelf" 95 yX0_find) ∈ wB := wB_of 356 (by decide +kernel) (by decide +kernel)
theorem mw_357 : (Cond.classLink "RevisionShelf" 99 "java/util/NoSuchElementException") ∈ wB := wB_of 357 (by decide +kernel) (by decide +kernel)
theorem mw_358 : (Cond.instantiable "java/util/NoSuchElementException" 6) ∈ wB := wB_of 358 (by decide +kernel) (by decide +kernel)
theorem mw_360 : (Cond.selects "java/util/NoSuchElementException" (⟨"java/lang/Throwable", "fillInStackTrace", "(I)Ljava/lang/Throwable;"⟩ : MethodName) (⟨"java/lang/Throwable", "fillInStackTrace", "(I)Ljava/lang/Throwable;"⟩ : MethodName)) ∈ wB := wB_of 360 (by decide +kernel) (by decide +kernel)
theorem mw_366 : (Cond.methodLink "RevisionShelf" 101 (⟨"java/util/NoSuchElementException", "<init>", "()V"⟩ : MethodName)) ∈ wB := wB_of 366 (by decide +kernel) (by decide +kernel)
theorem mw_367 : (Cond.instanceMethod (⟨"java/util/NoSuchElementException", "<init>", "()V"⟩ : MethodName)) ∈ wB := wB_of 367 (by decide +kernel) (by decide +kernel)
theorem mw_368 : (Cond.code (⟨"java/util/NoSuchElementException", "<init>", "()V"⟩ : MethodName) prog_13_method_1_code 1 none) ∈ wB := wB_of 368 (by decide +kernel) (by decide +kernel)
theorem mw_369 : (Cond.methodLink "java/util/NoSuchElementException" 1 (⟨"java/lang/RuntimeException", "<init>", "()V"⟩ : MethodName)) ∈ wB := wB_of 369 (by decide +kernel) (by decide +kernel)
theorem mw_372 : (Cond.methodLink "RevisionShelfLaw" 94 yL_state) ∈ wB := wB_of 372 (by decide +kernel) (by decide +kernel)
theorem mw_373 : (Cond.static yL_state) ∈ wB := wB_of 373 (by decide +kernel) (by decide +kernel)
theorem mw_374 : (Cond.codeWith yL_state method_9_code 6 (some .int) [(0, 12, 15, 23), (0, 12, 19, 25)]) ∈ wB := wB_of 374 (by decide +kernel) (by decide +kernel)
theorem mw_375 : (Cond.methodLink "RevisionShelfLaw" 41 yX3_state) ∈ wB := wB_of 375 (by decide +kernel) (by decide +kernel)
theorem mw_376 : (Cond.instanceMethod yX3_state) ∈ wB := wB_of 376 (by decide +kernel) (by decide +kernel)
theorem mw_377 : (Cond.selects "RevisionShelf" yX3_state yX3_state) ∈ wB := wB_of 377 (by decide +kernel) (by decide +kernel)
theorem mw_378 : (Cond.code yX3_state prog_1_method_8_code 4 (some .int)) ∈ wB := wB_of 378 (by decide +kernel) (by decide +kernel)
theorem mw_379 : (Cond.methodLink "RevisionShelf" 106 yX0_read) ∈ wB := wB_of 379 (by decide +kernel) (by decide +kernel)
theorem mw_380 : (Cond.methodLink "RevisionShelfLaw" 98 yL_many) ∈ wB := wB_of 380 (by decide +kernel) (by decide +kernel)
theorem mw_381 : (Cond.static yL_many) ∈ wB := wB_of 381 (by decide +kernel) (by decide +kernel)
theorem mw_382 : (Cond.codeWith yL_many method_10_code 6 (some .int) [(0, 12, 15, 23), (0, 12, 19, 25)]) ∈ wB := wB_of 382 (by decide +kernel) (by decide +kernel)
theorem mw_383 : (Cond.methodLink "RevisionShelfLaw" 45 yX3_many) ∈ wB := wB_of 383 (by decide +kernel) (by decide +kernel)
theorem mw_384 : (Cond.instanceMethod yX3_many) ∈ wB := wB_of 384 (by decide +kernel) (by decide +kernel)
theorem mw_385 : (Cond.selects "RevisionShelf" yX3_many yX3_many) ∈ wB := wB_of 385 (by decide +kernel) (by decide +kernel)
theorem mw_386 : (Cond.code yX3_many prog_1_method_9_code 4 (some .int)) ∈ wB := wB_of 386 (by decide +kernel) (by decide +kernel)
theorem mw_387 : (Cond.methodLink "RevisionShelf" 110 yX0_keysWithin) ∈ wB := wB_of 387 (by decide +kernel) (by decide +kernel)
theorem mw_388 : (Cond.instanceMethod yX0_keysWithin) ∈ wB := wB_of 388 (by decide +kernel) (by decide +kernel)
theorem mw_389 : (Cond.selects "RevisionShelf$EventLog" yX0_keysWithin yX0_keysWithin) ∈ wB := wB_of 389 (by decide +kernel) (by decide +kernel)
theorem mw_390 : (Cond.code yX0_keysWithin prog_2_method_11_code 6 (some .int)) ∈ wB := wB_of 390 (by decide +kernel) (by decide +kernel)
theorem mw_391 : (Cond.methodLink "RevisionShelf$EventLog" 60 yX0_holdsWithin) ∈ wB := wB_of 391 (by decide +kernel) (by decide +kernel)
theorem mw_393 : (Cond.instanceMethod yX0_holdsWithin) ∈ wB := wB_of 393 (by decide +kernel) (by decide +kernel)
theorem mw_394 : (Cond.code yX0_holdsWithin prog_2_method_13_code 5 (some .boolean)) ∈ wB := wB_of 394 (by decide +kernel) (by decide +kernel)
theorem mw_395 : (Cond.methodLink "RevisionShelfLaw" 101 yL_key) ∈ wB := wB_of 395 (by decide +kernel) (by decide +kernel)
theorem mw_396 : (Cond.static yL_key) ∈ wB := wB_of 396 (by decide +kernel) (by decide +kernel)
theorem mw_397 : (Cond.codeWith yL_key method_11_code 7 (some .int) [(0, 14, 17, 23), (0, 14, 21, 25), (0, 14, 25, 39)]) ∈ wB := wB_of 397 (by decide +kernel) (by decide +kernel)
theorem mw_398 : (Cond.methodLink "RevisionShelfLaw" 48 yX3_key) ∈ wB := wB_of 398 (by decide +kernel) (by decide +kernel)
theorem mw_399 : (Cond.instanceMethod yX3_key) ∈ wB := wB_of 399 (by decide +kernel) (by decide +kernel)
theorem mw_400 : (Cond.selects "RevisionShelf" yX3_key yX3_key) ∈ wB := wB_of 400 (by decide +kernel) (by decide +kernel)
theorem mw_401 : (Cond.code yX3_key prog_1_method_10_code 6 (some .int)) ∈ wB := wB_of 401 (by decide +kernel) (by decide +kernel)
theorem mw_402 : (Cond.methodLink "RevisionShelf" 114 yX0_findWithin) ∈ wB := wB_of 402 (by decide +kernel) (by decide +kernel)
theorem mw_403 : (Cond.instanceMethod yX0_findWithin) ∈ wB := wB_of 403 (by decide +kernel) (by decide +kernel)
theorem mw_404 : (Cond.selects "RevisionShelf$EventLog" yX0_findWithin yX0_findWithin) ∈ wB := wB_of 404 (by decide +kernel) (by decide +kernel)
theorem mw_405 : (Cond.code yX0_findWithin prog_2_method_12_code 8 (some .int)) ∈ wB := wB_of 405 (by decide +kernel) (by decide +kernel)
theorem mw_406 : (Cond.methodLink "RevisionShelfLaw" 105 yL_compact) ∈ wB := wB_of 406 (by decide +kernel) (by decide +kernel)
theorem mw_407 : (Cond.static yL_compact) ∈ wB := wB_of 407 (by decide +kernel) (by decide +kernel)
theorem mw_408 : (Cond.codeWith yL_compact method_12_code 3 (some .int) [(0, 5, 8, 23), (0, 5, 11, 25)]) ∈ wB := wB_of 408 (by decide +kernel) (by decide +kernel)
theorem mw_409 : (Cond.methodLink "RevisionShelfLaw" 52 yX3_compact) ∈ wB := wB_of 409 (by decide +kernel) (by decide +kernel)
theorem mw_410 : (Cond.instanceMethod yX3_compact) ∈ wB := wB_of 410 (by decide +kernel) (by decide +kernel)
theorem mw_411 : (Cond.selects "RevisionShelf" yX3_compact yX3_compact) ∈ wB := wB_of 411 (by decide +kernel) (by decide +kernel)
theorem mw_412 : (Cond.code yX3_compact prog_1_method_11_code 2 none) ∈ wB := wB_of 412 (by decide +kernel) (by decide +kernel)
theorem mw_413 : (Cond.methodLink "RevisionShelfLaw" 109 yL_event) ∈ wB := wB_of 413 (by decide +kernel) (by decide +kernel)
theorem mw_414 : (Cond.static yL_event) ∈ wB := wB_of 414 (by decide +kernel) (by decide +kernel)
theorem mw_415 : (Cond.codeWith yL_event method_13_code 6 (some .int) [(0, 12, 15, 23), (0, 12, 19, 25), (0, 12, 23, 39)]) ∈ wB := wB_of 415 (by decide +kernel) (by decide +kernel)
theorem mw_416 : (Cond.methodLink "RevisionShelfLaw" 56 yX3_event) ∈ wB := wB_of 416 (by decide +kernel) (by decide +kernel)
theorem mw_417 : (Cond.instanceMethod yX3_event) ∈ wB := wB_of 417 (by decide +kernel) (by decide +kernel)
theorem mw_418 : (Cond.selects "RevisionShelf" yX3_event yX3_event) ∈ wB := wB_of 418 (by decide +kernel) (by decide +kernel)
theorem mw_419 : (Cond.code yX3_event prog_1_method_12_code 5 (some .int)) ∈ wB := wB_of 419 (by decide +kernel) (by decide +kernel)
theorem mw_420 : (Cond.methodLink "RevisionShelf" 122 yX0_firstEventFrom) ∈ wB := wB_of 420 (by decide +kernel) (by decide +kernel)
theorem mw_421 : (Cond.instanceMethod yX0_firstEventFrom) ∈ wB := wB_of 421 (by decide +kernel) (by decide +kernel)
theorem mw_422 : (Cond.selects "RevisionShelf$EventLog" yX0_firstEventFrom yX0_firstEventFrom) ∈ wB := wB_of 422 (by decide +kernel) (by decide +kernel)
theorem mw_423 : (Cond.code yX0_firstEventFrom prog_2_method_15_code 3 (some .int)) ∈ wB := wB_of 423 (by decide +kernel) (by decide +kernel)
theorem mw_424 : (Cond.methodLink "RevisionShelf" 126 yX0_describe) ∈ wB := wB_of 424 (by decide +kernel) (by decide +kernel)
theorem mw_425 : (Cond.instanceMethod yX0_describe) ∈ wB := wB_of 425 (by decide +kernel) (by decide +kernel)
theorem mw_426 : (Cond.selects "RevisionShelf$EventLog" yX0_describe yX0_describe) ∈ wB := wB_of 426 (by decide +kernel) (by decide +kernel)
theorem mw_427 : (Cond.code yX0_describe prog_2_method_16_code 3 (some .int)) ∈ wB := wB_of 427 (by decide +kernel) (by decide +kernel)
theorem mw_428 : (Cond.classLink "RevisionShelfLaw" 60 "RevisionShelfModel") ∈ wB := wB_of 428 (by decide +kernel) (by decide +kernel)
theorem mw_429 : (Cond.instantiable "RevisionShelfModel" 20) ∈ wB := wB_of 429 (by decide +kernel) (by decide +kernel)
theorem mw_430 : (Cond.methodLink "RevisionShelfLaw" 62 yX4_init) ∈ wB := wB_of 430 (by decide +kernel) (by decide +kernel)
theorem mw_431 : (Cond.instanceMethod yX4_init) ∈ wB := wB_of 431 (by decide +kernel) (by decide +kernel)
theorem mw_432 : (Cond.code yX4_init prog_6_method_1_code 1 none) ∈ wB := wB_of 432 (by decide +kernel) (by decide +kernel)
theorem mw_433 : (Cond.methodLink "RevisionShelfModel" 1 objectInit) ∈ wB := wB_of 433 (by decide +kernel) (by decide +kernel)
theorem mw_434 : (Cond.fieldLink "RevisionShelfModel" 51 "RevisionShelfModel" "thrown" "I") ∈ wB := wB_of 434 (by decide +kernel) (by decide +kernel)
theorem mw_435 : (Cond.fieldLink "RevisionShelfModel" 7 "RevisionShelfModel" "evKey" "[I") ∈ wB := wB_of 435 (by decide +kernel) (by decide +kernel)
theorem mw_436 : (Cond.fieldLink "RevisionShelfModel" 13 "RevisionShelfModel" "evRevision" "[I") ∈ wB := wB_of 436 (by decide +kernel) (by decide +kernel)
theorem mw_437 : (Cond.fieldLink "RevisionShelfModel" 16 "RevisionShelfModel" "evNext" "[I") ∈ wB := wB_of 437 (by decide +kernel) (by decide +kernel)
theorem mw_438 : (Cond.fieldLink "RevisionShelfModel" 19 "RevisionShelfModel" "evValue" "[J") ∈ wB := wB_of 438 (by decide +kernel) (by decide +kernel)
theorem mw_439 : (Cond.fieldLink "RevisionShelfModel" 23 "RevisionShelfModel" "evSet" "[Z") ∈ wB := wB_of 439 (by decide +kernel) (by decide +kernel)
theorem mw_440 : (Cond.fieldLink "RevisionShelfModel" 55 "RevisionShelfModel" "events" "I") ∈ wB := wB_of 440 (by decide +kernel) (by decide +kernel)
theorem mw_441 : (Cond.fieldLink "RevisionShelfModel" 66 "RevisionShelfModel" "revision" "I") ∈ wB := wB_of 441 (by decide +kernel) (by decide +kernel)
theorem mw_442 : (Cond.fieldLink "RevisionShelfModel" 90 "RevisionShelfModel" "compacted" "I") ∈ wB := wB_of 442 (by decide +kernel) (by decide +kernel)
theorem mw_443 : (Cond.fieldLink "RevisionShelfModel" 27 "RevisionShelfModel" "testKey" "[I") ∈ wB := wB_of 443 (by decide +kernel) (by decide +kernel)
theorem mw_444 : (Cond.fieldLink "RevisionShelfModel" 30 "RevisionShelfModel" "testWhat" "[I") ∈ wB := wB_of 444 (by decide +kernel) (by decide +kernel)
theorem mw_445 : (Cond.fieldLink "RevisionShelfModel" 33 "RevisionShelfModel" "testRelation" "[I") ∈ wB := wB_of 445 (by decide +kernel) (by decide +kernel)
theorem mw_446 : (Cond.fieldLink "RevisionShelfModel" 36 "RevisionShelfModel" "testValue" "[J") ∈ wB := wB_of 446 (by decide +kernel) (by decide +kernel)
theorem mw_447 : (Cond.fieldLink "RevisionShelfModel" 77 "RevisionShelfModel" "tests" "I") ∈ wB := wB_of 447 (by decide +kernel) (by decide +kernel)
theorem mw_448 : (Cond.fieldLink "RevisionShelfModel" 39 "RevisionShelfModel" "stepKey" "[I") ∈ wB := wB_of 448 (by decide +kernel) (by decide +kernel)
theorem mw_449 : (Cond.fieldLink "RevisionShelfModel" 42 "RevisionShelfModel" "stepSet" "[Z") ∈ wB := wB_of 449 (by decide +kernel) (by decide +kernel)
theorem mw_450 : (Cond.fieldLink "RevisionShelfModel" 45 "RevisionShelfModel" "stepValue" "[J") ∈ wB := wB_of 450 (by decide +kernel) (by decide +kernel)
theorem mw_451 : (Cond.fieldLink "RevisionShelfModel" 80 "RevisionShelfModel" "firsts" "I") ∈ wB := wB_of 451 (by decide +kernel) (by decide +kernel)
theorem mw_452 : (Cond.fieldLink "RevisionShelfModel" 83 "RevisionShelfModel" "seconds" "I") ∈ wB := wB_of 452 (by decide +kernel) (by decide +kernel)
theorem mw_453 : (Cond.fieldLink "RevisionShelfModel" 48 "RevisionShelfModel" "keys" "[I") ∈ wB := wB_of 453 (by decide +kernel) (by decide +kernel)
theorem mw_495 : (Cond.methodLink "RevisionShelfLaw" 71 yX4_thrown) ∈ wB := wB_of 495 (by decide +kernel) (by decide +kernel)
theorem mw_496 : (Cond.instanceMethod yX4_thrown) ∈ wB := wB_of 496 (by decide +kernel) (by decide +kernel)
theorem mw_497 : (Cond.selects "RevisionShelfModel" yX4_thrown yX4_thrown) ∈ wB := wB_of 497 (by decide +kernel) (by decide +kernel)
theorem mw_498 : (Cond.code yX4_thrown prog_6_method_2_code 1 (some .int)) ∈ wB := wB_of 498 (by decide +kernel) (by decide +kernel)
theorem mw_499 : (Cond.methodLink "RevisionShelfLaw" 70 yX4_put) ∈ wB := wB_of 499 (by decide +kernel) (by decide +kernel)
theorem mw_500 : (Cond.instanceMethod yX4_put) ∈ wB := wB_of 500 (by decide +kernel) (by decide +kernel)
theorem mw_501 : (Cond.selects "RevisionShelfModel" yX4_put yX4_put) ∈ wB := wB_of 501 (by decide +kernel) (by decide +kernel)
theorem mw_502 : (Cond.code yX4_put prog_6_method_7_code 4 (some .int)) ∈ wB := wB_of 502 (by decide +kernel) (by decide +kernel)
theorem mw_503 : (Cond.methodLink "RevisionShelfModel" 62 yX4_no) ∈ wB := wB_of 503 (by decide +kernel) (by decide +kernel)
theorem mw_505 : (Cond.instanceMethod yX4_no) ∈ wB := wB_of 505 (by decide +kernel) (by decide +kernel)
theorem mw_506 : (Cond.code yX4_no prog_6_method_3_code 2 (some .int)) ∈ wB := wB_of 506 (by decide +kernel) (by decide +kernel)
theorem mw_507 : (Cond.methodLink "RevisionShelfModel" 69 yX4_add) ∈ wB := wB_of 507 (by decide +kernel) (by decide +kernel)
theorem mw_509 : (Cond.instanceMethod yX4_add) ∈ wB := wB_of 509 (by decide +kernel) (by decide +kernel)
theorem mw_510 : (Cond.code yX4_add prog_6_method_6_code 7 none) ∈ wB := wB_of 510 (by decide +kernel) (by decide +kernel)
theorem mw_511 : (Cond.methodLink "RevisionShelfModel" 58 yX4_last) ∈ wB := wB_of 511 (by decide +kernel) (by decide +kernel)
theorem mw_513 : (Cond.instanceMethod yX4_last) ∈ wB := wB_of 513 (by decide +kernel) (by decide +kernel)
theorem mw_514 : (Cond.code yX4_last prog_6_method_4_code 5 (some .int)) ∈ wB := wB_of 514 (by decide +kernel) (by decide +kernel)
theorem mw_515 : (Cond.methodLink "RevisionShelfLaw" 77 yX4_remove) ∈ wB := wB_of 515 (by decide +kernel) (by decide +kernel)
theorem mw_516 : (Cond.instanceMethod yX4_remove) ∈ wB := wB_of 516 (by decide +kernel) (by decide +kernel)
theorem mw_517 : (Cond.selects "RevisionShelfModel" yX4_remove yX4_remove) ∈ wB := wB_of 517 (by decide +kernel) (by decide +kernel)
theorem mw_518 : (Cond.code yX4_remove prog_6_method_8_code 2 (some .int)) ∈ wB := wB_of 518 (by decide +kernel) (by decide +kernel)
theorem mw_519 : (Cond.methodLink "RevisionShelfModel" 73 yX4_isThere) ∈ wB := wB_of 519 (by decide +kernel) (by decide +kernel)
theorem mw_521 : (Cond.instanceMethod yX4_isThere) ∈ wB := wB_of 521 (by decide +kernel) (by decide +kernel)
theorem mw_522 : (Cond.code yX4_isThere prog_6_method_5_code 4 (some .boolean)) ∈ wB := wB_of 522 (by decide +kernel) (by decide +kernel)
theorem mw_523 : (Cond.methodLink "RevisionShelfLaw" 81 yX4_test) ∈ wB := wB_of 523 (by decide +kernel) (by decide +kernel)
theorem mw_524 : (Cond.instanceMethod yX4_test) ∈ wB := wB_of 524 (by decide +kernel) (by decide +kernel)
theorem mw_525 : (Cond.selects "RevisionShelfModel" yX4_test yX4_test) ∈ wB := wB_of 525 (by decide +kernel) (by decide +kernel)
theorem mw_526 : (Cond.code yX4_test prog_6_method_9_code 6 none) ∈ wB := wB_of 526 (by decide +kernel) (by decide +kernel)
theorem mw_527 : (Cond.methodLink "RevisionShelfLaw" 85 yX4_step) ∈ wB := wB_of 527 (by decide +kernel) (by decide +kernel)
theorem mw_528 : (Cond.instanceMethod yX4_step) ∈ wB := wB_of 528 (by decide +kernel) (by decide +kernel)
theorem mw_529 : (Cond.selects "RevisionShelfModel" yX4_step yX4_step) ∈ wB := wB_of 529 (by decide +kernel) (by decide +kernel)
theorem mw_530 : (Cond.code yX4_step prog_6_method_10_code 7 none) ∈ wB := wB_of 530 (by decide +kernel) (by decide +kernel)
theorem mw_531 : (Cond.methodLink "RevisionShelfLaw" 89 yX4_deal) ∈ wB := wB_of 531 (by decide +kernel) (by decide +kernel)
theorem mw_532 : (Cond.instanceMethod yX4_deal) ∈ wB := wB_of 532 (by decide +kernel) (by decide +kernel)
theorem mw_533 : (Cond.selects "RevisionShelfModel" yX4_deal yX4_deal) ∈ wB := wB_of 533 (by decide +kernel) (by decide +kernel)
theorem mw_534 : (Cond.code yX4_deal prog_6_method_12_code 6 (some .int)) ∈ wB := wB_of 534 (by decide +kernel) (by decide +kernel)
theorem mw_535 : (Cond.methodLink "RevisionShelfModel" 86 yX4_told) ∈ wB := wB_of 535 (by decide +kernel) (by decide +kernel)
theorem mw_537 : (Cond.instanceMethod yX4_told) ∈ wB := wB_of 537 (by decide +kernel) (by decide +kernel)
theorem mw_538 : (Cond.code yX4_told prog_6_method_11_code 10 (some .long)) ∈ wB := wB_of 538 (by decide +kernel) (by decide +kernel)
theorem mw_539 : (Cond.methodLink "RevisionShelfLaw" 93 yX4_get) ∈ wB := wB_of 539 (by decide +kernel) (by decide +kernel)
theorem mw_540 : (Cond.instanceMethod yX4_get) ∈ wB := wB_of 540 (by decide +kernel) (by decide +kernel)
theorem mw_541 : (Cond.selects "RevisionShelfModel" yX4_get yX4_get) ∈ wB := wB_of 541 (by decide +kernel) (by decide +kernel)
theorem mw_542 : (Cond.code yX4_get prog_6_method_14_code 4 (some .long)) ∈ wB := wB_of 542 (by decide +kernel) (by decide +kernel)
theorem mw_543 : (Cond.methodLink "RevisionShelfModel" 93 yX4_reading) ∈ wB := wB_of 543 (by decide +kernel) (by decide +kernel)
theorem mw_545 : (Cond.instanceMethod yX4_reading) ∈ wB := wB_of 545 (by decide +kernel) (by decide +kernel)
theorem mw_546 : (Cond.code yX4_reading prog_6_method_13_code 3 (some .int)) ∈ wB := wB_of 546 (by decide +kernel) (by decide +kernel)
theorem mw_547 : (Cond.methodLink "RevisionShelfLaw" 97 yX4_state) ∈ wB := wB_of 547 (by decide +kernel) (by decide +kernel)
theorem mw_548 : (Cond.instanceMethod yX4_state) ∈ wB := wB_of 548 (by decide +kernel) (by decide +kernel)
theorem mw_549 : (Cond.selects "RevisionShelfModel" yX4_state yX4_state) ∈ wB := wB_of 549 (by decide +kernel) (by decide +kernel)
theorem mw_550 : (Cond.code yX4_state prog_6_method_15_code 5 (some .int)) ∈ wB := wB_of 550 (by decide +kernel) (by decide +kernel)
theorem mw_551 : (Cond.methodLink "RevisionShelfLaw" 100 yX4_many) ∈ wB := wB_of 551 (by decide +kernel) (by decide +kernel)
theorem mw_552 : (Cond.instanceMethod yX4_many) ∈ wB := wB_of 552 (by decide +kernel) (by decide +kernel)
theorem mw_553 : (Cond.selects "RevisionShelfModel" yX4_many yX4_many) ∈ wB := wB_of 553 (by decide +kernel) (by decide +kernel)
theorem mw_554 : (Cond.code yX4_many prog_6_method_17_code 5 (some .int)) ∈ wB := wB_of 554 (by decide +kernel) (by decide +kernel)
theorem mw_555 : (Cond.methodLink "RevisionShelfModel" 97 yX4_gather) ∈ wB := wB_of 555 (by decide +kernel) (by decide +kernel)
theorem mw_557 : (Cond.instanceMethod yX4_gather) ∈ wB := wB_of 557 (by decide +kernel) (by decide +kernel)
theorem mw_558 : (Cond.code yX4_gather prog_6_method_16_code 7 (some .int)) ∈ wB := wB_of 558 (by decide +kernel) (by decide +kernel)
theorem mw_559 : (Cond.methodLink "RevisionShelfLaw" 104 yX4_key) ∈ wB := wB_of 559 (by decide +kernel) (by decide +kernel)
theorem mw_560 : (Cond.instanceMethod yX4_key) ∈ wB := wB_of 560 (by decide +kernel) (by decide +kernel)
theorem mw_561 : (Cond.selects "RevisionShelfModel" yX4_key yX4_key) ∈ wB := wB_of 561 (by decide +kernel) (by decide +kernel)
theorem mw_562 : (Cond.code yX4_key prog_6_method_18_code 10 (some .int)) ∈ wB := wB_of 562 (by decide +kernel) (by decide +kernel)
theorem mw_563 : (Cond.methodLink "RevisionShelfLaw" 108 yX4_compact) ∈ wB := wB_of 563 (by decide +kernel) (by decide +kernel)
theorem mw_564 : (Cond.instanceMethod yX4_compact) ∈ wB := wB_of 564 (by decide +kernel) (by decide +kernel)
theorem mw_565 : (Cond.selects "RevisionShelfModel" yX4_compact yX4_compact) ∈ wB := wB_of 565 (by decide +kernel) (by decide +kernel)
theorem mw_566 : (Cond.code yX4_compact prog_6_method_19_code 2 none) ∈ wB := wB_of 566 (by decide +kernel) (by decide +kernel)
theorem mw_567 : (Cond.methodLink "RevisionShelfLaw" 111 yX4_event) ∈ wB := wB_of 567 (by decide +kernel) (by decide +kernel)
theorem mw_568 : (Cond.instanceMethod yX4_event) ∈ wB := wB_of 568 (by decide +kernel) (by decide +kernel)
theorem mw_569 : (Cond.selects "RevisionShelfModel" yX4_event yX4_event) ∈ wB := wB_of 569 (by decide +kernel) (by decide +kernel)
theorem mw_570 : (Cond.code yX4_event prog_6_method_20_code 6 (some .int)) ∈ wB := wB_of 570 (by decide +kernel) (by decide +kernel)
theorem mw_571 : (Cond.methodLink "RevisionShelfLaw" 115 yX4_count) ∈ wB := wB_of 571 (by decide +kernel) (by decide +kernel)
theorem mw_572 : (Cond.instanceMethod yX4_count) ∈ wB := wB_of 572 (by decide +kernel) (by decide +kernel)
theorem mw_573 : (Cond.selects "RevisionShelfModel" yX4_count yX4_count) ∈ wB := wB_of 573 (by decide +kernel) (by decide +kernel)
theorem mw_574 : (Cond.code yX4_count prog_6_method_21_code 4 (some .int)) ∈ wB := wB_of 574 (by decide +kernel) (by decide +kernel)
theorem mw_575 : (Cond.constantLong "RevisionShelfLaw" 63 (4294967295 : Int64)) ∈ wB := wB_of 575 (by decide +kernel) (by decide +kernel)
theorem ms_0 : Cond.selects "RevisionShelf$EventLog" yX0_holds yX0_holds ∈ wB := wB_sel 0 (by decide +kernel) (by decide +kernel)
theorem ms_1 : Cond.selects "RevisionShelf" yX3_refuseIfFull yX3_refuseIfFull ∈ wB := wB_sel 1 (by decide +kernel) (by decide +kernel)
theorem ms_2 : Cond.selects "java/lang/Throwable" (⟨"java/lang/Throwable", "fillInStackTrace", "(I)Ljava/lang/Throwable;"⟩ : MethodName) (⟨"java/lang/Throwable", "fillInStackTrace", "(I)Ljava/lang/Throwable;"⟩ : MethodName) ∈ wB := wB_sel 2 (by decide +kernel) (by decide +kernel)
theorem ms_3 : Cond.selects "RevisionShelf$EventLog" yX0_append yX0_append ∈ wB := wB_sel 3 (by decide +kernel) (by decide +kernel)
theorem ms_4 : Cond.selects "RevisionShelf$EventLog" yX0_sortIn yX0_sortIn ∈ wB := wB_sel 4 (by decide +kernel) (by decide +kernel)
theorem ms_5 : Cond.selects "RevisionShelf$TestList" yX2_holds yX2_holds ∈ wB := wB_sel 5 (by decide +kernel) (by decide +kernel)
theorem ms_6 : Cond.selects "RevisionShelf$StepList" yX1_isThereBefore yX1_isThereBefore ∈ wB := wB_sel 6 (by decide +kernel) (by decide +kernel)
theorem ms_7 : Cond.selects "RevisionShelf" yX3_readingRevision yX3_readingRevision ∈ wB := wB_sel 7 (by decide +kernel) (by decide +kernel)
theorem ms_8 : Cond.selects "RevisionShelf$EventLog" yX0_holdsWithin yX0_holdsWithin ∈ wB := wB_sel 8 (by decide +kernel) (by decide +kernel)
theorem ms_9 : Cond.selects "RevisionShelfModel" yX4_no yX4_no ∈ wB := wB_sel 9 (by decide +kernel) (by decide +kernel)
theorem ms_10 : Cond.selects "RevisionShelfModel" yX4_add yX4_add ∈ wB := wB_sel 10 (by decide +kernel) (by decide +kernel)
theorem ms_11 : Cond.selects "RevisionShelfModel" yX4_last yX4_last ∈ wB := wB_sel 11 (by decide +kernel) (by decide +kernel)
theorem ms_12 : Cond.selects "RevisionShelfModel" yX4_isThere yX4_isThere ∈ wB := wB_sel 12 (by decide +kernel) (by decide +kernel)
theorem ms_13 : Cond.selects "RevisionShelfModel" yX4_told yX4_told ∈ wB := wB_sel 13 (by decide +kernel) (by decide +kernel)
theorem ms_14 : Cond.selects "RevisionShelfModel" yX4_reading yX4_reading ∈ wB := wB_sel 14 (by decide +kernel) (by decide +kernel)
theorem ms_15 : Cond.selects "RevisionShelfModel" yX4_gather yX4_gather ∈ wB := wB_sel 15 (by decide +kernel) (by decide +kernel)
theorem mu_X3 {c0 : Cond} : ∀ w ∈ u_ws RX3 TX3 5, w ∈ c0 :: wB := by
  have h : ∀ w ∈ u_ws RX3 TX3 5, w ∈ wB := by
    intro w hw
    refine List.mem_filter.mpr ?_
    revert w
    decide +kernel
  exact fun w hw => List.mem_cons_of_mem _ (h w hw)
theorem mu_X0 {c0 : Cond} : ∀ w ∈ u_ws RX0 TX0 10, w ∈ c0 :: wB := by
  have h : ∀ w ∈ u_ws RX0 TX0 10, w ∈ wB := by
    intro w hw
    refine List.mem_filter.mpr ?_
    revert w
    decide +kernel
  exact fun w hw => List.mem_cons_of_mem _ (h w hw)
theorem mu_X1 {c0 : Cond} : ∀ w ∈ u_ws RX1 TX1 4, w ∈ c0 :: wB := by
  have h : ∀ w ∈ u_ws RX1 TX1 4, w ∈ wB := by
    intro w hw
    refine List.mem_filter.mpr ?_
    revert w
    decide +kernel
  exact fun w hw => List.mem_cons_of_mem _ (h w hw)
theorem mu_X2 {c0 : Cond} : ∀ w ∈ u_ws RX2 TX2 5, w ∈ c0 :: wB := by
  have h : ∀ w ∈ u_ws RX2 TX2 5, w ∈ wB := by
    intro w hw
    refine List.mem_filter.mpr ?_
    revert w
    decide +kernel
  exact fun w hw => List.mem_cons_of_mem _ (h w hw)
theorem mu_X4 {c0 : Cond} : ∀ w ∈ u_ws RX4 TX4 20, w ∈ c0 :: wB := by
  have h : ∀ w ∈ u_ws RX4 TX4 20, w ∈ wB := by
    intro w hw
    refine List.mem_filter.mpr ?_
    revert w
    decide +kernel
  exact fun w hw => List.mem_cons_of_mem _ (h w hw)
end
section
theorem dX3_init_0 : decode cX3_init 0 = .ok (.aload_n 0, 1) := by decide +kernel
theorem dX3_init_1 : decode cX3_init 1 = .ok (.invokespecial 1, 3) := by decide +kernel
theorem dX3_init_4 : decode cX3_init 4 = .ok (.aload_n 0, 1) := by decide +kernel
theorem dX3_init_5 : decode cX3_init 5 = .ok (.new 7, 3) := by decide +kernel
theorem dX3_init_8 : decode cX3_init 8 = .ok (.dup, 1) := by decide +kernel
theorem dX3_init_9 : decode cX3_init 9 = .ok (.invokespecial 9, 3) := by decide +kernel
theorem dX3_init_12 : decode cX3_init 12 = .ok (.putfield 10, 3) := by decide +kernel
theorem dX3_init_15 : decode cX3_init 15 = .ok (.aload_n 0, 1) := by decide +kernel
theorem dX3_init_16 : decode cX3_init 16 = .ok (.new 16, 3) := by decide +kernel
theorem dX3_init_19 : decode cX3_init 19 = .ok (.dup, 1) := by decide +kernel
theorem dX3_init_20 : decode cX3_init 20 = .ok (.invokespecial 18, 3) := by decide +kernel
theorem dX3_init_23 : decode cX3_init 23 = .ok (.putfield 19, 3) := by decide +kernel
theorem dX3_init_26 : decode cX3_init 26 = .ok (.aload_n 0, 1) := by decide +kernel
theorem dX3_init_27 : decode cX3_init 27 = .ok (.new 23, 3) := by decide +kernel
theorem dX3_init_30 : decode cX3_init 30 = .ok (.dup, 1) := by decide +kernel
theorem dX3_init_31 : decode cX3_init 31 = .ok (.invokespecial 25, 3) := by decide +kernel
theorem dX3_init_34 : decode cX3_init 34 = .ok (.putfield 26, 3) := by decide +kernel
theorem dX3_init_37 : decode cX3_init 37 = .ok (.aload_n 0, 1) := by decide +kernel
theorem dX3_init_38 : decode cX3_init 38 = .ok (.new 23, 3) := by decide +kernel
theorem dX3_init_41 : decode cX3_init 41 = .ok (.dup, 1) := by decide +kernel
theorem dX3_init_42 : decode cX3_init 42 = .ok (.invokespecial 25, 3) := by decide +kernel
theorem dX3_init_45 : decode cX3_init 45 = .ok (.putfield 30, 3) := by decide +kernel
theorem dX3_init_48 : decode cX3_init 48 = .ok (.aload_n 0, 1) := by decide +kernel
theorem dX3_init_49 : decode cX3_init 49 = .ok (.iconst 0, 1) := by decide +kernel
theorem dX3_init_50 : decode cX3_init 50 = .ok (.putfield 33, 3) := by decide +kernel
theorem dX3_init_53 : decode cX3_init 53 = .ok (.return_, 1) := by decide +kernel
theorem dX3_put_0 : decode cX3_put 0 = .ok (.aload_n 0, 1) := by decide +kernel
theorem dX3_put_1 : decode cX3_put 1 = .ok (.iconst 1, 1) := by decide +kernel
theorem dX3_put_2 : decode cX3_put 2 = .ok (.invokevirtual 37, 3) := by decide +kernel
theorem dX3_put_5 : decode cX3_put 5 = .ok (.aload_n 0, 1) := by decide +kernel
theorem dX3_put_6 : decode cX3_put 6 = .ok (.getfield 10, 3) := by decide +kernel
theorem dX3_put_9 : decode cX3_put 9 = .ok (.invokevirtual 41, 3) := by decide +kernel
theorem dX3_put_12 : decode cX3_put 12 = .ok (.aload_n 0, 1) := by decide +kernel
theorem dX3_put_13 : decode cX3_put 13 = .ok (.getfield 10, 3) := by decide +kernel
theorem dX3_put_16 : decode cX3_put 16 = .ok (.iload_n 1, 1) := by decide +kernel
theorem dX3_put_17 : decode cX3_put 17 = .ok (.lload_n 2, 1) := by decide +kernel
theorem dX3_put_18 : decode cX3_put 18 = .ok (.invokevirtual 44, 3) := by decide +kernel
theorem dX3_put_21 : decode cX3_put 21 = .ok (.aload_n 0, 1) := by decide +kernel
theorem dX3_put_22 : decode cX3_put 22 = .ok (.getfield 10, 3) := by decide +kernel
theorem dX3_put_25 : decode cX3_put 25 = .ok (.getfield 48, 3) := by decide +kernel
theorem dX3_put_28 : decode cX3_put 28 = .ok (.ireturn, 1) := by decide +kernel
theorem dX3_remove_0 : decode cX3_remove 0 = .ok (.aload_n 0, 1) := by decide +kernel
theorem dX3_remove_1 : decode cX3_remove 1 = .ok (.getfield 10, 3) := by decide +kernel
theorem dX3_remove_4 : decode cX3_remove 4 = .ok (.iload_n 1, 1) := by decide +kernel
theorem dX3_remove_5 : decode cX3_remove 5 = .ok (.invokevirtual 51, 3) := by decide +kernel
theorem dX3_remove_8 : decode cX3_remove 8 = .ok (.ifCond .ne 5, 3) := by decide +kernel
theorem dX3_remove_11 : decode cX3_remove 11 = .ok (.iconst 0, 1) := by decide +kernel
theorem dX3_remove_12 : decode cX3_remove 12 = .ok (.ireturn, 1) := by decide +kernel
theorem dX3_remove_13 : decode cX3_remove 13 = .ok (.aload_n 0, 1) := by decide +kernel
theorem dX3_remove_14 : decode cX3_remove 14 = .ok (.iconst 1, 1) := by decide +kernel
theorem dX3_remove_15 : decode cX3_remove 15 = .ok (.invokevirtual 37, 3) := by decide +kernel
theorem dX3_remove_18 : decode cX3_remove 18 = .ok (.aload_n 0, 1) := by decide +kernel
theorem dX3_remove_19 : decode cX3_remove 19 = .ok (.getfield 10, 3) := by decide +kernel
theorem dX3_remove_22 : decode cX3_remove 22 = .ok (.invokevirtual 41, 3) := by decide +kernel
theorem dX3_remove_25 : decode cX3_remove 25 = .ok (.aload_n 0, 1) := by decide +kernel
theorem dX3_remove_26 : decode cX3_remove 26 = .ok (.getfield 10, 3) := by decide +kernel
theorem dX3_remove_29 : decode cX3_remove 29 = .ok (.iload_n 1, 1) := by decide +kernel
theorem dX3_remove_30 : decode cX3_remove 30 = .ok (.invokevirtual 55, 3) := by decide +kernel
theorem dX3_remove_33 : decode cX3_remove 33 = .ok (.aload_n 0, 1) := by decide +kernel
theorem dX3_remove_34 : decode cX3_remove 34 = .ok (.getfield 10, 3) := by decide +kernel
theorem dX3_remove_37 : decode cX3_remove 37 = .ok (.getfield 48, 3) := by decide +kernel
theorem dX3_remove_40 : decode cX3_remove 40 = .ok (.ireturn, 1) := by decide +kernel
theorem dX3_test_0 : decode cX3_test 0 = .ok (.iload_n 2, 1) := by decide +kernel
theorem dX3_test_1 : decode cX3_test 1 = .ok (.ifCond .lt 18, 3) := by decide +kernel
theorem dX3_test_4 : decode cX3_test 4 = .ok (.iload_n 2, 1) := by decide +kernel
theorem dX3_test_5 : decode cX3_test 5 = .ok (.iconst 3, 1) := by decide +kernel
theorem dX3_test_6 : decode cX3_test 6 = .ok (.if_icmp .gt 13, 3) := by decide +kernel
theorem dX3_test_9 : decode cX3_test 9 = .ok (.iload_n 3, 1) := by decide +kernel
theorem dX3_test_10 : decode cX3_test 10 = .ok (.iconst (-1), 1) := by decide +kernel
theorem dX3_test_11 : decode cX3_test 11 = .ok (.if_icmp .lt 8, 3) := by decide +kernel
theorem dX3_test_14 : decode cX3_test 14 = .ok (.iload_n 3, 1) := by decide +kernel
theorem dX3_test_15 : decode cX3_test 15 = .ok (.iconst 1, 1) := by decide +kernel
theorem dX3_test_16 : decode cX3_test 16 = .ok (.if_icmp .le 11, 3) := by decide +kernel
theorem dX3_test_19 : decode cX3_test 19 = .ok (.new 58, 3) := by decide +kernel
theorem dX3_test_22 : decode cX3_test 22 = .ok (.dup, 1) := by decide +kernel
theorem dX3_test_23 : decode cX3_test 23 = .ok (.invokespecial 60, 3) := by decide +kernel
theorem dX3_test_26 : decode cX3_test 26 = .ok (.athrow, 1) := by decide +kernel
theorem dX3_test_27 : decode cX3_test 27 = .ok (.aload_n 0, 1) := by decide +kernel
theorem dX3_test_28 : decode cX3_test 28 = .ok (.getfield 19, 3) := by decide +kernel
theorem dX3_test_31 : decode cX3_test 31 = .ok (.getfield 61, 3) := by decide +kernel
theorem dX3_test_34 : decode cX3_test 34 = .ok (.bipush 20, 2) := by decide +kernel
theorem dX3_test_36 : decode cX3_test 36 = .ok (.if_icmp .lt 11, 3) := by decide +kernel
theorem dX3_test_39 : decode cX3_test 39 = .ok (.new 64, 3) := by decide +kernel
theorem dX3_test_42 : decode cX3_test 42 = .ok (.dup, 1) := by decide +kernel
theorem dX3_test_43 : decode cX3_test 43 = .ok (.invokespecial 66, 3) := by decide +kernel
theorem dX3_test_46 : decode cX3_test 46 = .ok (.athrow, 1) := by decide +kernel
theorem dX3_test_47 : decode cX3_test 47 = .ok (.aload_n 0, 1) := by decide +kernel
theorem dX3_test_48 : decode cX3_test 48 = .ok (.getfield 19, 3) := by decide +kernel
theorem dX3_test_51 : decode cX3_test 51 = .ok (.iload_n 1, 1) := by decide +kernel
theorem dX3_test_52 : decode cX3_test 52 = .ok (.iload_n 2, 1) := by decide +kernel
theorem dX3_test_53 : decode cX3_test 53 = .ok (.iload_n 3, 1) := by decide +kernel
theorem dX3_test_54 : decode cX3_test 54 = .ok (.lload 4, 2) := by decide +kernel
theorem dX3_test_56 : decode cX3_test 56 = .ok (.invokevirtual 67, 3) := by decide +kernel
theorem dX3_test_59 : decode cX3_test 59 = .ok (.return_, 1) := by decide +kernel
theorem dX3_step_0 : decode cX3_step 0 = .ok (.iload_n 1, 1) := by decide +kernel
theorem dX3_step_1 : decode cX3_step 1 = .ok (.ifCond .eq 10, 3) := by decide +kernel
theorem dX3_step_4 : decode cX3_step 4 = .ok (.aload_n 0, 1) := by decide +kernel
theorem dX3_step_5 : decode cX3_step 5 = .ok (.getfield 26, 3) := by decide +kernel
theorem dX3_step_8 : decode cX3_step 8 = .ok (.goto 7, 3) := by decide +kernel
theorem dX3_step_11 : decode cX3_step 11 = .ok (.aload_n 0, 1) := by decide +kernel
theorem dX3_step_12 : decode cX3_step 12 = .ok (.getfield 30, 3) := by decide +kernel
theorem dX3_step_15 : decode cX3_step 15 = .ok (.astore 6, 2) := by decide +kernel
theorem dX3_step_17 : decode cX3_step 17 = .ok (.aload 6, 2) := by decide +kernel
theorem dX3_step_19 : decode cX3_step 19 = .ok (.getfield 71, 3) := by decide +kernel
theorem dX3_step_22 : decode cX3_step 22 = .ok (.bipush 20, 2) := by decide +kernel
theorem dX3_step_24 : decode cX3_step 24 = .ok (.if_icmp .lt 11, 3) := by decide +kernel
theorem dX3_step_27 : decode cX3_step 27 = .ok (.new 64, 3) := by decide +kernel
theorem dX3_step_30 : decode cX3_step 30 = .ok (.dup, 1) := by decide +kernel
theorem dX3_step_31 : decode cX3_step 31 = .ok (.invokespecial 66, 3) := by decide +kernel
theorem dX3_step_34 : decode cX3_step 34 = .ok (.athrow, 1) := by decide +kernel
theorem dX3_step_35 : decode cX3_step 35 = .ok (.aload 6, 2) := by decide +kernel
theorem dX3_step_37 : decode cX3_step 37 = .ok (.iload_n 2, 1) := by decide +kernel
theorem dX3_step_38 : decode cX3_step 38 = .ok (.iload_n 3, 1) := by decide +kernel
theorem dX3_step_39 : decode cX3_step 39 = .ok (.lload 4, 2) := by decide +kernel
theorem dX3_step_41 : decode cX3_step 41 = .ok (.invokevirtual 72, 3) := by decide +kernel
theorem dX3_step_44 : decode cX3_step 44 = .ok (.return_, 1) := by decide +kernel
theorem dX3_deal_0 : decode cX3_deal 0 = .ok (.aload_n 0, 1) := by decide +kernel
theorem dX3_deal_1 : decode cX3_deal 1 = .ok (.getfield 19, 3) := by decide +kernel
theorem dX3_deal_4 : decode cX3_deal 4 = .ok (.aload_n 0, 1) := by decide +kernel
theorem dX3_deal_5 : decode cX3_deal 5 = .ok (.getfield 10, 3) := by decide +kernel
theorem dX3_deal_8 : decode cX3_deal 8 = .ok (.invokevirtual 75, 3) := by decide +kernel
theorem dX3_deal_11 : decode cX3_deal 11 = .ok (.istore_n 1, 1) := by decide +kernel
theorem dX3_deal_12 : decode cX3_deal 12 = .ok (.iload_n 1, 1) := by decide +kernel
theorem dX3_deal_13 : decode cX3_deal 13 = .ok (.ifCond .eq 10, 3) := by decide +kernel
theorem dX3_deal_16 : decode cX3_deal 16 = .ok (.aload_n 0, 1) := by decide +kernel
theorem dX3_deal_17 : decode cX3_deal 17 = .ok (.getfield 26, 3) := by decide +kernel
theorem dX3_deal_20 : decode cX3_deal 20 = .ok (.goto 7, 3) := by decide +kernel
theorem dX3_deal_23 : decode cX3_deal 23 = .ok (.aload_n 0, 1) := by decide +kernel
theorem dX3_deal_24 : decode cX3_deal 24 = .ok (.getfield 30, 3) := by decide +kernel
theorem dX3_deal_27 : decode cX3_deal 27 = .ok (.astore_n 2, 1) := by decide +kernel
theorem dX3_deal_28 : decode cX3_deal 28 = .ok (.aload_n 2, 1) := by decide +kernel
theorem dX3_deal_29 : decode cX3_deal 29 = .ok (.aload_n 0, 1) := by decide +kernel
theorem dX3_deal_30 : decode cX3_deal 30 = .ok (.getfield 10, 3) := by decide +kernel
theorem dX3_deal_33 : decode cX3_deal 33 = .ok (.invokevirtual 79, 3) := by decide +kernel
theorem dX3_deal_36 : decode cX3_deal 36 = .ok (.istore_n 3, 1) := by decide +kernel
theorem dX3_deal_37 : decode cX3_deal 37 = .ok (.aload_n 0, 1) := by decide +kernel
theorem dX3_deal_38 : decode cX3_deal 38 = .ok (.iload_n 3, 1) := by decide +kernel
theorem dX3_deal_39 : decode cX3_deal 39 = .ok (.invokevirtual 37, 3) := by decide +kernel
theorem dX3_deal_42 : decode cX3_deal 42 = .ok (.iload_n 3, 1) := by decide +kernel
theorem dX3_deal_43 : decode cX3_deal 43 = .ok (.ifCond .le 18, 3) := by decide +kernel
theorem dX3_deal_46 : decode cX3_deal 46 = .ok (.aload_n 0, 1) := by decide +kernel
theorem dX3_deal_47 : decode cX3_deal 47 = .ok (.getfield 10, 3) := by decide +kernel
theorem dX3_deal_50 : decode cX3_deal 50 = .ok (.invokevirtual 41, 3) := by decide +kernel
theorem dX3_deal_53 : decode cX3_deal 53 = .ok (.aload_n 2, 1) := by decide +kernel
theorem dX3_deal_54 : decode cX3_deal 54 = .ok (.aload_n 0, 1) := by decide +kernel
theorem dX3_deal_55 : decode cX3_deal 55 = .ok (.getfield 10, 3) := by decide +kernel
theorem dX3_deal_58 : decode cX3_deal 58 = .ok (.invokevirtual 83, 3) := by decide +kernel
theorem dX3_deal_61 : decode cX3_deal 61 = .ok (.aload_n 0, 1) := by decide +kernel
theorem dX3_deal_62 : decode cX3_deal 62 = .ok (.getfield 19, 3) := by decide +kernel
theorem dX3_deal_65 : decode cX3_deal 65 = .ok (.invokevirtual 87, 3) := by decide +kernel
theorem dX3_deal_68 : decode cX3_deal 68 = .ok (.aload_n 0, 1) := by decide +kernel
theorem dX3_deal_69 : decode cX3_deal 69 = .ok (.getfield 26, 3) := by decide +kernel
theorem dX3_deal_72 : decode cX3_deal 72 = .ok (.invokevirtual 90, 3) := by decide +kernel
theorem dX3_deal_75 : decode cX3_deal 75 = .ok (.aload_n 0, 1) := by decide +kernel
theorem dX3_deal_76 : decode cX3_deal 76 = .ok (.getfield 30, 3) := by decide +kernel
theorem dX3_deal_79 : decode cX3_deal 79 = .ok (.invokevirtual 90, 3) := by decide +kernel
theorem dX3_deal_82 : decode cX3_deal 82 = .ok (.iload_n 1, 1) := by decide +kernel
theorem dX3_deal_83 : decode cX3_deal 83 = .ok (.ifCond .eq 7, 3) := by decide +kernel
theorem dX3_deal_86 : decode cX3_deal 86 = .ok (.iconst 1, 1) := by decide +kernel
theorem dX3_deal_87 : decode cX3_deal 87 = .ok (.goto 4, 3) := by decide +kernel
theorem dX3_deal_90 : decode cX3_deal 90 = .ok (.iconst 2, 1) := by decide +kernel
theorem dX3_deal_91 : decode cX3_deal 91 = .ok (.ireturn, 1) := by decide +kernel
theorem dX3_get_0 : decode cX3_get 0 = .ok (.aload_n 0, 1) := by decide +kernel
theorem dX3_get_1 : decode cX3_get 1 = .ok (.getfield 10, 3) := by decide +kernel
theorem dX3_get_4 : decode cX3_get 4 = .ok (.iload_n 1, 1) := by decide +kernel
theorem dX3_get_5 : decode cX3_get 5 = .ok (.aload_n 0, 1) := by decide +kernel
theorem dX3_get_6 : decode cX3_get 6 = .ok (.iload_n 2, 1) := by decide +kernel
theorem dX3_get_7 : decode cX3_get 7 = .ok (.invokevirtual 91, 3) := by decide +kernel
theorem dX3_get_10 : decode cX3_get 10 = .ok (.invokevirtual 95, 3) := by decide +kernel
theorem dX3_get_13 : decode cX3_get 13 = .ok (.istore_n 3, 1) := by decide +kernel
theorem dX3_get_14 : decode cX3_get 14 = .ok (.iload_n 3, 1) := by decide +kernel
theorem dX3_get_15 : decode cX3_get 15 = .ok (.iconst (-1), 1) := by decide +kernel
theorem dX3_get_16 : decode cX3_get 16 = .ok (.if_icmp .ne 11, 3) := by decide +kernel
theorem dX3_get_19 : decode cX3_get 19 = .ok (.new 99, 3) := by decide +kernel
theorem dX3_get_22 : decode cX3_get 22 = .ok (.dup, 1) := by decide +kernel
theorem dX3_get_23 : decode cX3_get 23 = .ok (.invokespecial 101, 3) := by decide +kernel
theorem dX3_get_26 : decode cX3_get 26 = .ok (.athrow, 1) := by decide +kernel
theorem dX3_get_27 : decode cX3_get 27 = .ok (.aload_n 0, 1) := by decide +kernel
theorem dX3_get_28 : decode cX3_get 28 = .ok (.getfield 10, 3) := by decide +kernel
theorem dX3_get_31 : decode cX3_get 31 = .ok (.getfield 102, 3) := by decide +kernel
theorem dX3_get_34 : decode cX3_get 34 = .ok (.iload_n 3, 1) := by decide +kernel
theorem dX3_get_35 : decode cX3_get 35 = .ok (.laload, 1) := by decide +kernel
theorem dX3_get_36 : decode cX3_get 36 = .ok (.lreturn, 1) := by decide +kernel
theorem dX3_state_0 : decode cX3_state 0 = .ok (.iload_n 3, 1) := by decide +kernel
theorem dX3_state_1 : decode cX3_state 1 = .ok (.iconst 1, 1) := by decide +kernel
theorem dX3_state_2 : decode cX3_state 2 = .ok (.if_icmp .lt 8, 3) := by decide +kernel
theorem dX3_state_5 : decode cX3_state 5 = .ok (.iload_n 3, 1) := by decide +kernel
theorem dX3_state_6 : decode cX3_state 6 = .ok (.iconst 3, 1) := by decide +kernel
theorem dX3_state_7 : decode cX3_state 7 = .ok (.if_icmp .le 11, 3) := by decide +kernel
theorem dX3_state_10 : decode cX3_state 10 = .ok (.new 58, 3) := by decide +kernel
theorem dX3_state_13 : decode cX3_state 13 = .ok (.dup, 1) := by decide +kernel
theorem dX3_state_14 : decode cX3_state 14 = .ok (.invokespecial 60, 3) := by decide +kernel
theorem dX3_state_17 : decode cX3_state 17 = .ok (.athrow, 1) := by decide +kernel
theorem dX3_state_18 : decode cX3_state 18 = .ok (.aload_n 0, 1) := by decide +kernel
theorem dX3_state_19 : decode cX3_state 19 = .ok (.getfield 10, 3) := by decide +kernel
theorem dX3_state_22 : decode cX3_state 22 = .ok (.iload_n 1, 1) := by decide +kernel
theorem dX3_state_23 : decode cX3_state 23 = .ok (.aload_n 0, 1) := by decide +kernel
theorem dX3_state_24 : decode cX3_state 24 = .ok (.iload_n 2, 1) := by decide +kernel
theorem dX3_state_25 : decode cX3_state 25 = .ok (.invokevirtual 91, 3) := by decide +kernel
theorem dX3_state_28 : decode cX3_state 28 = .ok (.iload_n 3, 1) := by decide +kernel
theorem dX3_state_29 : decode cX3_state 29 = .ok (.invokevirtual 106, 3) := by decide +kernel
theorem dX3_state_32 : decode cX3_state 32 = .ok (.l2i, 1) := by decide +kernel
theorem dX3_state_33 : decode cX3_state 33 = .ok (.ireturn, 1) := by decide +kernel
theorem dX3_many_0 : decode cX3_many 0 = .ok (.aload_n 0, 1) := by decide +kernel
theorem dX3_many_1 : decode cX3_many 1 = .ok (.getfield 10, 3) := by decide +kernel
theorem dX3_many_4 : decode cX3_many 4 = .ok (.iload_n 1, 1) := by decide +kernel
theorem dX3_many_5 : decode cX3_many 5 = .ok (.iload_n 2, 1) := by decide +kernel
theorem dX3_many_6 : decode cX3_many 6 = .ok (.aload_n 0, 1) := by decide +kernel
theorem dX3_many_7 : decode cX3_many 7 = .ok (.iload_n 3, 1) := by decide +kernel
theorem dX3_many_8 : decode cX3_many 8 = .ok (.invokevirtual 91, 3) := by decide +kernel
theorem dX3_many_11 : decode cX3_many 11 = .ok (.invokevirtual 110, 3) := by decide +kernel
theorem dX3_many_14 : decode cX3_many 14 = .ok (.ireturn, 1) := by decide +kernel
theorem dX3_key_0 : decode cX3_key 0 = .ok (.aload_n 0, 1) := by decide +kernel
theorem dX3_key_1 : decode cX3_key 1 = .ok (.getfield 10, 3) := by decide +kernel
theorem dX3_key_4 : decode cX3_key 4 = .ok (.iload_n 1, 1) := by decide +kernel
theorem dX3_key_5 : decode cX3_key 5 = .ok (.iload_n 2, 1) := by decide +kernel
theorem dX3_key_6 : decode cX3_key 6 = .ok (.aload_n 0, 1) := by decide +kernel
theorem dX3_key_7 : decode cX3_key 7 = .ok (.iload_n 3, 1) := by decide +kernel
theorem dX3_key_8 : decode cX3_key 8 = .ok (.invokevirtual 91, 3) := by decide +kernel
theorem dX3_key_11 : decode cX3_key 11 = .ok (.iload 4, 2) := by decide +kernel
theorem dX3_key_13 : decode cX3_key 13 = .ok (.invokevirtual 114, 3) := by decide +kernel
theorem dX3_key_16 : decode cX3_key 16 = .ok (.istore 5, 2) := by decide +kernel
theorem dX3_key_18 : decode cX3_key 18 = .ok (.iload 5, 2) := by decide +kernel
theorem dX3_key_20 : decode cX3_key 20 = .ok (.iconst (-1), 1) := by decide +kernel
theorem dX3_key_21 : decode cX3_key 21 = .ok (.if_icmp .ne 11, 3) := by decide +kernel
theorem dX3_key_24 : decode cX3_key 24 = .ok (.new 99, 3) := by decide +kernel
theorem dX3_key_27 : decode cX3_key 27 = .ok (.dup, 1) := by decide +kernel
theorem dX3_key_28 : decode cX3_key 28 = .ok (.invokespecial 101, 3) := by decide +kernel
theorem dX3_key_31 : decode cX3_key 31 = .ok (.athrow, 1) := by decide +kernel
theorem dX3_key_32 : decode cX3_key 32 = .ok (.aload_n 0, 1) := by decide +kernel
theorem dX3_key_33 : decode cX3_key 33 = .ok (.getfield 10, 3) := by decide +kernel
theorem dX3_key_36 : decode cX3_key 36 = .ok (.getfield 118, 3) := by decide +kernel
theorem dX3_key_39 : decode cX3_key 39 = .ok (.iload 5, 2) := by decide +kernel
theorem dX3_key_41 : decode cX3_key 41 = .ok (.iaload, 1) := by decide +kernel
theorem dX3_key_42 : decode cX3_key 42 = .ok (.ireturn, 1) := by decide +kernel
theorem dX3_compact_0 : decode cX3_compact 0 = .ok (.iload_n 1, 1) := by decide +kernel
theorem dX3_compact_1 : decode cX3_compact 1 = .ok (.iconst 1, 1) := by decide +kernel
theorem dX3_compact_2 : decode cX3_compact 2 = .ok (.if_icmp .lt 14, 3) := by decide +kernel
theorem dX3_compact_5 : decode cX3_compact 5 = .ok (.iload_n 1, 1) := by decide +kernel
theorem dX3_compact_6 : decode cX3_compact 6 = .ok (.aload_n 0, 1) := by decide +kernel
theorem dX3_compact_7 : decode cX3_compact 7 = .ok (.getfield 10, 3) := by decide +kernel
theorem dX3_compact_10 : decode cX3_compact 10 = .ok (.getfield 48, 3) := by decide +kernel
theorem dX3_compact_13 : decode cX3_compact 13 = .ok (.if_icmp .le 11, 3) := by decide +kernel
theorem dX3_compact_16 : decode cX3_compact 16 = .ok (.new 58, 3) := by decide +kernel
theorem dX3_compact_19 : decode cX3_compact 19 = .ok (.dup, 1) := by decide +kernel
theorem dX3_compact_20 : decode cX3_compact 20 = .ok (.invokespecial 60, 3) := by decide +kernel
theorem dX3_compact_23 : decode cX3_compact 23 = .ok (.athrow, 1) := by decide +kernel
theorem dX3_compact_24 : decode cX3_compact 24 = .ok (.iload_n 1, 1) := by decide +kernel
theorem dX3_compact_25 : decode cX3_compact 25 = .ok (.aload_n 0, 1) := by decide +kernel
theorem dX3_compact_26 : decode cX3_compact 26 = .ok (.getfield 33, 3) := by decide +kernel
theorem dX3_compact_29 : decode cX3_compact 29 = .ok (.if_icmp .gt 11, 3) := by decide +kernel
theorem dX3_compact_32 : decode cX3_compact 32 = .ok (.new 64, 3) := by decide +kernel
theorem dX3_compact_35 : decode cX3_compact 35 = .ok (.dup, 1) := by decide +kernel
theorem dX3_compact_36 : decode cX3_compact 36 = .ok (.invokespecial 66, 3) := by decide +kernel
theorem dX3_compact_39 : decode cX3_compact 39 = .ok (.athrow, 1) := by decide +kernel
theorem dX3_compact_40 : decode cX3_compact 40 = .ok (.aload_n 0, 1) := by decide +kernel
theorem dX3_compact_41 : decode cX3_compact 41 = .ok (.iload_n 1, 1) := by decide +kernel
theorem dX3_compact_42 : decode cX3_compact 42 = .ok (.putfield 33, 3) := by decide +kernel
theorem dX3_compact_45 : decode cX3_compact 45 = .ok (.return_, 1) := by decide +kernel
theorem dX3_event_0 : decode cX3_event 0 = .ok (.iload_n 1, 1) := by decide +kernel
theorem dX3_event_1 : decode cX3_event 1 = .ok (.iconst 1, 1) := by decide +kernel
theorem dX3_event_2 : decode cX3_event 2 = .ok (.if_icmp .lt 12, 3) := by decide +kernel
theorem dX3_event_5 : decode cX3_event 5 = .ok (.iload_n 3, 1) := by decide +kernel
theorem dX3_event_6 : decode cX3_event 6 = .ok (.ifCond .lt 8, 3) := by decide +kernel
theorem dX3_event_9 : decode cX3_event 9 = .ok (.iload_n 3, 1) := by decide +kernel
theorem dX3_event_10 : decode cX3_event 10 = .ok (.iconst 2, 1) := by decide +kernel
theorem dX3_event_11 : decode cX3_event 11 = .ok (.if_icmp .le 11, 3) := by decide +kernel
theorem dX3_event_14 : decode cX3_event 14 = .ok (.new 58, 3) := by decide +kernel
theorem dX3_event_17 : decode cX3_event 17 = .ok (.dup, 1) := by decide +kernel
theorem dX3_event_18 : decode cX3_event 18 = .ok (.invokespecial 60, 3) := by decide +kernel
theorem dX3_event_21 : decode cX3_event 21 = .ok (.athrow, 1) := by decide +kernel
theorem dX3_event_22 : decode cX3_event 22 = .ok (.iload_n 1, 1) := by decide +kernel
theorem dX3_event_23 : decode cX3_event 23 = .ok (.aload_n 0, 1) := by decide +kernel
theorem dX3_event_24 : decode cX3_event 24 = .ok (.getfield 33, 3) := by decide +kernel
theorem dX3_event_27 : decode cX3_event 27 = .ok (.if_icmp .gt 11, 3) := by decide +kernel
theorem dX3_event_30 : decode cX3_event 30 = .ok (.new 64, 3) := by decide +kernel
theorem dX3_event_33 : decode cX3_event 33 = .ok (.dup, 1) := by decide +kernel
theorem dX3_event_34 : decode cX3_event 34 = .ok (.invokespecial 66, 3) := by decide +kernel
theorem dX3_event_37 : decode cX3_event 37 = .ok (.athrow, 1) := by decide +kernel
theorem dX3_event_38 : decode cX3_event 38 = .ok (.aload_n 0, 1) := by decide +kernel
theorem dX3_event_39 : decode cX3_event 39 = .ok (.getfield 10, 3) := by decide +kernel
theorem dX3_event_42 : decode cX3_event 42 = .ok (.iload_n 1, 1) := by decide +kernel
theorem dX3_event_43 : decode cX3_event 43 = .ok (.invokevirtual 122, 3) := by decide +kernel
theorem dX3_event_46 : decode cX3_event 46 = .ok (.istore 4, 2) := by decide +kernel
theorem dX3_event_48 : decode cX3_event 48 = .ok (.iload_n 2, 1) := by decide +kernel
theorem dX3_event_49 : decode cX3_event 49 = .ok (.ifCond .lt 17, 3) := by decide +kernel
theorem dX3_event_52 : decode cX3_event 52 = .ok (.iload_n 2, 1) := by decide +kernel
theorem dX3_event_53 : decode cX3_event 53 = .ok (.aload_n 0, 1) := by decide +kernel
theorem dX3_event_54 : decode cX3_event 54 = .ok (.getfield 10, 3) := by decide +kernel
theorem dX3_event_57 : decode cX3_event 57 = .ok (.getfield 125, 3) := by decide +kernel
theorem dX3_event_60 : decode cX3_event 60 = .ok (.iload 4, 2) := by decide +kernel
theorem dX3_event_62 : decode cX3_event 62 = .ok (.isub, 1) := by decide +kernel
theorem dX3_event_63 : decode cX3_event 63 = .ok (.if_icmp .lt 11, 3) := by decide +kernel
theorem dX3_event_66 : decode cX3_event 66 = .ok (.new 99, 3) := by decide +kernel
theorem dX3_event_69 : decode cX3_event 69 = .ok (.dup, 1) := by decide +kernel
theorem dX3_event_70 : decode cX3_event 70 = .ok (.invokespecial 101, 3) := by decide +kernel
theorem dX3_event_73 : decode cX3_event 73 = .ok (.athrow, 1) := by decide +kernel
theorem dX3_event_74 : decode cX3_event 74 = .ok (.aload_n 0, 1) := by decide +kernel
theorem dX3_event_75 : decode cX3_event 75 = .ok (.getfield 10, 3) := by decide +kernel
theorem dX3_event_78 : decode cX3_event 78 = .ok (.iload 4, 2) := by decide +kernel
theorem dX3_event_80 : decode cX3_event 80 = .ok (.iload_n 2, 1) := by decide +kernel
theorem dX3_event_81 : decode cX3_event 81 = .ok (.iadd, 1) := by decide +kernel
theorem dX3_event_82 : decode cX3_event 82 = .ok (.iload_n 3, 1) := by decide +kernel
theorem dX3_event_83 : decode cX3_event 83 = .ok (.invokevirtual 126, 3) := by decide +kernel
theorem dX3_event_86 : decode cX3_event 86 = .ok (.ireturn, 1) := by decide +kernel
theorem dX3_count_0 : decode cX3_count 0 = .ok (.iload_n 1, 1) := by decide +kernel
theorem dX3_count_1 : decode cX3_count 1 = .ok (.tableswitch 96 0 6 #[43, 51, 56, 64, 72, 80, 88], 43) := by decide +kernel
theorem dX3_count_44 : decode cX3_count 44 = .ok (.aload_n 0, 1) := by decide +kernel
theorem dX3_count_45 : decode cX3_count 45 = .ok (.getfield 10, 3) := by decide +kernel
theorem dX3_count_48 : decode cX3_count 48 = .ok (.getfield 48, 3) := by decide +kernel
theorem dX3_count_51 : decode cX3_count 51 = .ok (.ireturn, 1) := by decide +kernel
theorem dX3_count_52 : decode cX3_count 52 = .ok (.aload_n 0, 1) := by decide +kernel
theorem dX3_count_53 : decode cX3_count 53 = .ok (.getfield 33, 3) := by decide +kernel
theorem dX3_count_56 : decode cX3_count 56 = .ok (.ireturn, 1) := by decide +kernel
theorem dX3_count_57 : decode cX3_count 57 = .ok (.aload_n 0, 1) := by decide +kernel
theorem dX3_count_58 : decode cX3_count 58 = .ok (.getfield 10, 3) := by decide +kernel
theorem dX3_count_61 : decode cX3_count 61 = .ok (.getfield 125, 3) := by decide +kernel
theorem dX3_count_64 : decode cX3_count 64 = .ok (.ireturn, 1) := by decide +kernel
theorem dX3_count_65 : decode cX3_count 65 = .ok (.aload_n 0, 1) := by decide +kernel
theorem dX3_count_66 : decode cX3_count 66 = .ok (.getfield 19, 3) := by decide +kernel
theorem dX3_count_69 : decode cX3_count 69 = .ok (.getfield 61, 3) := by decide +kernel
theorem dX3_count_72 : decode cX3_count 72 = .ok (.ireturn, 1) := by decide +kernel
theorem dX3_count_73 : decode cX3_count 73 = .ok (.aload_n 0, 1) := by decide +kernel
theorem dX3_count_74 : decode cX3_count 74 = .ok (.getfield 26, 3) := by decide +kernel
theorem dX3_count_77 : decode cX3_count 77 = .ok (.getfield 71, 3) := by decide +kernel
theorem dX3_count_80 : decode cX3_count 80 = .ok (.ireturn, 1) := by decide +kernel
theorem dX3_count_81 : decode cX3_count 81 = .ok (.aload_n 0, 1) := by decide +kernel
theorem dX3_count_82 : decode cX3_count 82 = .ok (.getfield 30, 3) := by decide +kernel
theorem dX3_count_85 : decode cX3_count 85 = .ok (.getfield 71, 3) := by decide +kernel
theorem dX3_count_88 : decode cX3_count 88 = .ok (.ireturn, 1) := by decide +kernel
theorem dX3_count_89 : decode cX3_count 89 = .ok (.aload_n 0, 1) := by decide +kernel
theorem dX3_count_90 : decode cX3_count 90 = .ok (.getfield 10, 3) := by decide +kernel
theorem dX3_count_93 : decode cX3_count 93 = .ok (.invokevirtual 129, 3) := by decide +kernel
theorem dX3_count_96 : decode cX3_count 96 = .ok (.ireturn, 1) := by decide +kernel
theorem dX3_count_97 : decode cX3_count 97 = .ok (.iconst (-1), 1) := by decide +kernel
theorem dX3_count_98 : decode cX3_count 98 = .ok (.ireturn, 1) := by decide +kernel
theorem dX3_refuseIfFull_0 : decode cX3_refuseIfFull 0 = .ok (.iload_n 1, 1) := by decide +kernel
theorem dX3_refuseIfFull_1 : decode cX3_refuseIfFull 1 = .ok (.sipush 300, 3) := by decide +kernel
theorem dX3_refuseIfFull_4 : decode cX3_refuseIfFull 4 = .ok (.aload_n 0, 1) := by decide +kernel
theorem dX3_refuseIfFull_5 : decode cX3_refuseIfFull 5 = .ok (.getfield 10, 3) := by decide +kernel
theorem dX3_refuseIfFull_8 : decode cX3_refuseIfFull 8 = .ok (.getfield 125, 3) := by decide +kernel
theorem dX3_refuseIfFull_11 : decode cX3_refuseIfFull 11 = .ok (.isub, 1) := by decide +kernel
theorem dX3_refuseIfFull_12 : decode cX3_refuseIfFull 12 = .ok (.if_icmp .le 11, 3) := by decide +kernel
theorem dX3_refuseIfFull_15 : decode cX3_refuseIfFull 15 = .ok (.new 133, 3) := by decide +kernel
theorem dX3_refuseIfFull_18 : decode cX3_refuseIfFull 18 = .ok (.dup, 1) := by decide +kernel
theorem dX3_refuseIfFull_19 : decode cX3_refuseIfFull 19 = .ok (.invokespecial 135, 3) := by decide +kernel
theorem dX3_refuseIfFull_22 : decode cX3_refuseIfFull 22 = .ok (.athrow, 1) := by decide +kernel
theorem dX3_refuseIfFull_23 : decode cX3_refuseIfFull 23 = .ok (.return_, 1) := by decide +kernel
theorem dX3_readingRevision_0 : decode cX3_readingRevision 0 = .ok (.iload_n 1, 1) := by decide +kernel
theorem dX3_readingRevision_1 : decode cX3_readingRevision 1 = .ok (.ifCond .ge 11, 3) := by decide +kernel
theorem dX3_readingRevision_4 : decode cX3_readingRevision 4 = .ok (.new 58, 3) := by decide +kernel
theorem dX3_readingRevision_7 : decode cX3_readingRevision 7 = .ok (.dup, 1) := by decide +kernel
theorem dX3_readingRevision_8 : decode cX3_readingRevision 8 = .ok (.invokespecial 60, 3) := by decide +kernel
theorem dX3_readingRevision_11 : decode cX3_readingRevision 11 = .ok (.athrow, 1) := by decide +kernel
theorem dX3_readingRevision_12 : decode cX3_readingRevision 12 = .ok (.iload_n 1, 1) := by decide +kernel
theorem dX3_readingRevision_13 : decode cX3_readingRevision 13 = .ok (.ifCond .ne 11, 3) := by decide +kernel
theorem dX3_readingRevision_16 : decode cX3_readingRevision 16 = .ok (.aload_n 0, 1) := by decide +kernel
theorem dX3_readingRevision_17 : decode cX3_readingRevision 17 = .ok (.getfield 10, 3) := by decide +kernel
theorem dX3_readingRevision_20 : decode cX3_readingRevision 20 = .ok (.getfield 48, 3) := by decide +kernel
theorem dX3_readingRevision_23 : decode cX3_readingRevision 23 = .ok (.ireturn, 1) := by decide +kernel
theorem dX3_readingRevision_24 : decode cX3_readingRevision 24 = .ok (.iload_n 1, 1) := by decide +kernel
theorem dX3_readingRevision_25 : decode cX3_readingRevision 25 = .ok (.aload_n 0, 1) := by decide +kernel
theorem dX3_readingRevision_26 : decode cX3_readingRevision 26 = .ok (.getfield 33, 3) := by decide +kernel
theorem dX3_readingRevision_29 : decode cX3_readingRevision 29 = .ok (.if_icmp .lt 14, 3) := by decide +kernel
theorem dX3_readingRevision_32 : decode cX3_readingRevision 32 = .ok (.iload_n 1, 1) := by decide +kernel
theorem dX3_readingRevision_33 : decode cX3_readingRevision 33 = .ok (.aload_n 0, 1) := by decide +kernel
theorem dX3_readingRevision_34 : decode cX3_readingRevision 34 = .ok (.getfield 10, 3) := by decide +kernel
theorem dX3_readingRevision_37 : decode cX3_readingRevision 37 = .ok (.getfield 48, 3) := by decide +kernel
theorem dX3_readingRevision_40 : decode cX3_readingRevision 40 = .ok (.if_icmp .le 11, 3) := by decide +kernel
theorem dX3_readingRevision_43 : decode cX3_readingRevision 43 = .ok (.new 64, 3) := by decide +kernel
theorem dX3_readingRevision_46 : decode cX3_readingRevision 46 = .ok (.dup, 1) := by decide +kernel
theorem dX3_readingRevision_47 : decode cX3_readingRevision 47 = .ok (.invokespecial 66, 3) := by decide +kernel
theorem dX3_readingRevision_50 : decode cX3_readingRevision 50 = .ok (.athrow, 1) := by decide +kernel
theorem dX3_readingRevision_51 : decode cX3_readingRevision 51 = .ok (.iload_n 1, 1) := by decide +kernel
theorem dX3_readingRevision_52 : decode cX3_readingRevision 52 = .ok (.ireturn, 1) := by decide +kernel
theorem dX0_init_0 : decode cX0_init 0 = .ok (.aload_n 0, 1) := by decide +kernel
theorem dX0_init_1 : decode cX0_init 1 = .ok (.invokespecial 3, 3) := by decide +kernel
theorem dX0_init_4 : decode cX0_init 4 = .ok (.aload_n 0, 1) := by decide +kernel
theorem dX0_init_5 : decode cX0_init 5 = .ok (.iconst 0, 1) := by decide +kernel
theorem dX0_init_6 : decode cX0_init 6 = .ok (.putfield 9, 3) := by decide +kernel
theorem dX0_init_9 : decode cX0_init 9 = .ok (.aload_n 0, 1) := by decide +kernel
theorem dX0_init_10 : decode cX0_init 10 = .ok (.iconst 0, 1) := by decide +kernel
theorem dX0_init_11 : decode cX0_init 11 = .ok (.putfield 15, 3) := by decide +kernel
theorem dX0_init_14 : decode cX0_init 14 = .ok (.aload_n 0, 1) := by decide +kernel
theorem dX0_init_15 : decode cX0_init 15 = .ok (.sipush 300, 3) := by decide +kernel
theorem dX0_init_18 : decode cX0_init 18 = .ok (.newarray .int, 2) := by decide +kernel
theorem dX0_init_20 : decode cX0_init 20 = .ok (.putfield 18, 3) := by decide +kernel
theorem dX0_init_23 : decode cX0_init 23 = .ok (.aload_n 0, 1) := by decide +kernel
theorem dX0_init_24 : decode cX0_init 24 = .ok (.sipush 300, 3) := by decide +kernel
theorem dX0_init_27 : decode cX0_init 27 = .ok (.newarray .int, 2) := by decide +kernel
theorem dX0_init_29 : decode cX0_init 29 = .ok (.putfield 22, 3) := by decide +kernel
theorem dX0_init_32 : decode cX0_init 32 = .ok (.aload_n 0, 1) := by decide +kernel
theorem dX0_init_33 : decode cX0_init 33 = .ok (.sipush 300, 3) := by decide +kernel
theorem dX0_init_36 : decode cX0_init 36 = .ok (.newarray .boolean, 2) := by decide +kernel
theorem dX0_init_38 : decode cX0_init 38 = .ok (.putfield 25, 3) := by decide +kernel
theorem dX0_init_41 : decode cX0_init 41 = .ok (.aload_n 0, 1) := by decide +kernel
theorem dX0_init_42 : decode cX0_init 42 = .ok (.sipush 300, 3) := by decide +kernel
theorem dX0_init_45 : decode cX0_init 45 = .ok (.newarray .long, 2) := by decide +kernel
theorem dX0_init_47 : decode cX0_init 47 = .ok (.putfield 29, 3) := by decide +kernel
theorem dX0_init_50 : decode cX0_init 50 = .ok (.aload_n 0, 1) := by decide +kernel
theorem dX0_init_51 : decode cX0_init 51 = .ok (.sipush 300, 3) := by decide +kernel
theorem dX0_init_54 : decode cX0_init 54 = .ok (.newarray .int, 2) := by decide +kernel
theorem dX0_init_56 : decode cX0_init 56 = .ok (.putfield 33, 3) := by decide +kernel
theorem dX0_init_59 : decode cX0_init 59 = .ok (.aload_n 0, 1) := by decide +kernel
theorem dX0_init_60 : decode cX0_init 60 = .ok (.sipush 300, 3) := by decide +kernel
theorem dX0_init_63 : decode cX0_init 63 = .ok (.newarray .int, 2) := by decide +kernel
theorem dX0_init_65 : decode cX0_init 65 = .ok (.putfield 36, 3) := by decide +kernel
theorem dX0_init_68 : decode cX0_init 68 = .ok (.aload_n 0, 1) := by decide +kernel
theorem dX0_init_69 : decode cX0_init 69 = .ok (.sipush 300, 3) := by decide +kernel
theorem dX0_init_72 : decode cX0_init 72 = .ok (.newarray .int, 2) := by decide +kernel
theorem dX0_init_74 : decode cX0_init 74 = .ok (.putfield 39, 3) := by decide +kernel
theorem dX0_init_77 : decode cX0_init 77 = .ok (.aload_n 0, 1) := by decide +kernel
theorem dX0_init_78 : decode cX0_init 78 = .ok (.sipush 300, 3) := by decide +kernel
theorem dX0_init_81 : decode cX0_init 81 = .ok (.newarray .int, 2) := by decide +kernel
theorem dX0_init_83 : decode cX0_init 83 = .ok (.putfield 42, 3) := by decide +kernel
theorem dX0_init_86 : decode cX0_init 86 = .ok (.return_, 1) := by decide +kernel
theorem dX0_openRevision_0 : decode cX0_openRevision 0 = .ok (.aload_n 0, 1) := by decide +kernel
theorem dX0_openRevision_1 : decode cX0_openRevision 1 = .ok (.dup, 1) := by decide +kernel
theorem dX0_openRevision_2 : decode cX0_openRevision 2 = .ok (.getfield 9, 3) := by decide +kernel
theorem dX0_openRevision_5 : decode cX0_openRevision 5 = .ok (.iconst 1, 1) := by decide +kernel
theorem dX0_openRevision_6 : decode cX0_openRevision 6 = .ok (.iadd, 1) := by decide +kernel
theorem dX0_openRevision_7 : decode cX0_openRevision 7 = .ok (.putfield 9, 3) := by decide +kernel
theorem dX0_openRevision_10 : decode cX0_openRevision 10 = .ok (.return_, 1) := by decide +kernel
theorem dX0_appendSet_0 : decode cX0_appendSet 0 = .ok (.aload_n 0, 1) := by decide +kernel
theorem dX0_appendSet_1 : decode cX0_appendSet 1 = .ok (.iload_n 1, 1) := by decide +kernel
theorem dX0_appendSet_2 : decode cX0_appendSet 2 = .ok (.aload_n 0, 1) := by decide +kernel
theorem dX0_appendSet_3 : decode cX0_appendSet 3 = .ok (.getfield 9, 3) := by decide +kernel
theorem dX0_appendSet_6 : decode cX0_appendSet 6 = .ok (.invokevirtual 45, 3) := by decide +kernel
theorem dX0_appendSet_9 : decode cX0_appendSet 9 = .ok (.istore 4, 2) := by decide +kernel
theorem dX0_appendSet_11 : decode cX0_appendSet 11 = .ok (.aload_n 0, 1) := by decide +kernel
theorem dX0_appendSet_12 : decode cX0_appendSet 12 = .ok (.iload_n 1, 1) := by decide +kernel
theorem dX0_appendSet_13 : decode cX0_appendSet 13 = .ok (.iload 4, 2) := by decide +kernel
theorem dX0_appendSet_15 : decode cX0_appendSet 15 = .ok (.invokevirtual 49, 3) := by decide +kernel
theorem dX0_appendSet_18 : decode cX0_appendSet 18 = .ok (.istore 5, 2) := by decide +kernel
theorem dX0_appendSet_20 : decode cX0_appendSet 20 = .ok (.aload_n 0, 1) := by decide +kernel
theorem dX0_appendSet_21 : decode cX0_appendSet 21 = .ok (.getfield 25, 3) := by decide +kernel
theorem dX0_appendSet_24 : decode cX0_appendSet 24 = .ok (.iload 5, 2) := by decide +kernel
theorem dX0_appendSet_26 : decode cX0_appendSet 26 = .ok (.iconst 1, 1) := by decide +kernel
theorem dX0_appendSet_27 : decode cX0_appendSet 27 = .ok (.bastore, 1) := by decide +kernel
theorem dX0_appendSet_28 : decode cX0_appendSet 28 = .ok (.aload_n 0, 1) := by decide +kernel
theorem dX0_appendSet_29 : decode cX0_appendSet 29 = .ok (.getfield 29, 3) := by decide +kernel
theorem dX0_appendSet_32 : decode cX0_appendSet 32 = .ok (.iload 5, 2) := by decide +kernel
theorem dX0_appendSet_34 : decode cX0_appendSet 34 = .ok (.lload_n 2, 1) := by decide +kernel
theorem dX0_appendSet_35 : decode cX0_appendSet 35 = .ok (.lastore, 1) := by decide +kernel
theorem dX0_appendSet_36 : decode cX0_appendSet 36 = .ok (.aload_n 0, 1) := by decide +kernel
theorem dX0_appendSet_37 : decode cX0_appendSet 37 = .ok (.getfield 33, 3) := by decide +kernel
theorem dX0_appendSet_40 : decode cX0_appendSet 40 = .ok (.iload 5, 2) := by decide +kernel
theorem dX0_appendSet_42 : decode cX0_appendSet 42 = .ok (.iload 4, 2) := by decide +kernel
theorem dX0_appendSet_44 : decode cX0_appendSet 44 = .ok (.iconst (-1), 1) := by decide +kernel
theorem dX0_appendSet_45 : decode cX0_appendSet 45 = .ok (.if_icmp .ne 7, 3) := by decide +kernel
theorem dX0_appendSet_48 : decode cX0_appendSet 48 = .ok (.iconst 1, 1) := by decide +kernel
theorem dX0_appendSet_49 : decode cX0_appendSet 49 = .ok (.goto 12, 3) := by decide +kernel
theorem dX0_appendSet_52 : decode cX0_appendSet 52 = .ok (.aload_n 0, 1) := by decide +kernel
theorem dX0_appendSet_53 : decode cX0_appendSet 53 = .ok (.getfield 33, 3) := by decide +kernel
theorem dX0_appendSet_56 : decode cX0_appendSet 56 = .ok (.iload 4, 2) := by decide +kernel
theorem dX0_appendSet_58 : decode cX0_appendSet 58 = .ok (.iaload, 1) := by decide +kernel
theorem dX0_appendSet_59 : decode cX0_appendSet 59 = .ok (.iconst 1, 1) := by decide +kernel
theorem dX0_appendSet_60 : decode cX0_appendSet 60 = .ok (.iadd, 1) := by decide +kernel
theorem dX0_appendSet_61 : decode cX0_appendSet 61 = .ok (.iastore, 1) := by decide +kernel
theorem dX0_appendSet_62 : decode cX0_appendSet 62 = .ok (.aload_n 0, 1) := by decide +kernel
theorem dX0_appendSet_63 : decode cX0_appendSet 63 = .ok (.getfield 36, 3) := by decide +kernel
theorem dX0_appendSet_66 : decode cX0_appendSet 66 = .ok (.iload 5, 2) := by decide +kernel
theorem dX0_appendSet_68 : decode cX0_appendSet 68 = .ok (.iload 4, 2) := by decide +kernel
theorem dX0_appendSet_70 : decode cX0_appendSet 70 = .ok (.iconst (-1), 1) := by decide +kernel
theorem dX0_appendSet_71 : decode cX0_appendSet 71 = .ok (.if_icmp .ne 10, 3) := by decide +kernel
theorem dX0_appendSet_74 : decode cX0_appendSet 74 = .ok (.aload_n 0, 1) := by decide +kernel
theorem dX0_appendSet_75 : decode cX0_appendSet 75 = .ok (.getfield 9, 3) := by decide +kernel
theorem dX0_appendSet_78 : decode cX0_appendSet 78 = .ok (.goto 10, 3) := by decide +kernel
theorem dX0_appendSet_81 : decode cX0_appendSet 81 = .ok (.aload_n 0, 1) := by decide +kernel
theorem dX0_appendSet_82 : decode cX0_appendSet 82 = .ok (.getfield 36, 3) := by decide +kernel
theorem dX0_appendSet_85 : decode cX0_appendSet 85 = .ok (.iload 4, 2) := by decide +kernel
theorem dX0_appendSet_87 : decode cX0_appendSet 87 = .ok (.iaload, 1) := by decide +kernel
theorem dX0_appendSet_88 : decode cX0_appendSet 88 = .ok (.iastore, 1) := by decide +kernel
theorem dX0_appendSet_89 : decode cX0_appendSet 89 = .ok (.return_, 1) := by decide +kernel
theorem dX0_appendRemoval_0 : decode cX0_appendRemoval 0 = .ok (.aload_n 0, 1) := by decide +kernel
theorem dX0_appendRemoval_1 : decode cX0_appendRemoval 1 = .ok (.iload_n 1, 1) := by decide +kernel
theorem dX0_appendRemoval_2 : decode cX0_appendRemoval 2 = .ok (.aload_n 0, 1) := by decide +kernel
theorem dX0_appendRemoval_3 : decode cX0_appendRemoval 3 = .ok (.getfield 9, 3) := by decide +kernel
theorem dX0_appendRemoval_6 : decode cX0_appendRemoval 6 = .ok (.invokevirtual 45, 3) := by decide +kernel
theorem dX0_appendRemoval_9 : decode cX0_appendRemoval 9 = .ok (.istore_n 2, 1) := by decide +kernel
theorem dX0_appendRemoval_10 : decode cX0_appendRemoval 10 = .ok (.iload_n 2, 1) := by decide +kernel
theorem dX0_appendRemoval_11 : decode cX0_appendRemoval 11 = .ok (.iconst (-1), 1) := by decide +kernel
theorem dX0_appendRemoval_12 : decode cX0_appendRemoval 12 = .ok (.if_icmp .eq 10, 3) := by decide +kernel
theorem dX0_appendRemoval_15 : decode cX0_appendRemoval 15 = .ok (.aload_n 0, 1) := by decide +kernel
theorem dX0_appendRemoval_16 : decode cX0_appendRemoval 16 = .ok (.iload_n 1, 1) := by decide +kernel
theorem dX0_appendRemoval_17 : decode cX0_appendRemoval 17 = .ok (.iload_n 2, 1) := by decide +kernel
theorem dX0_appendRemoval_18 : decode cX0_appendRemoval 18 = .ok (.invokevirtual 49, 3) := by decide +kernel
theorem dX0_appendRemoval_21 : decode cX0_appendRemoval 21 = .ok (.pop, 1) := by decide +kernel
theorem dX0_appendRemoval_22 : decode cX0_appendRemoval 22 = .ok (.return_, 1) := by decide +kernel
theorem dX0_append_0 : decode cX0_append 0 = .ok (.iload_n 2, 1) := by decide +kernel
theorem dX0_append_1 : decode cX0_append 1 = .ok (.iconst (-1), 1) := by decide +kernel
theorem dX0_append_2 : decode cX0_append 2 = .ok (.if_icmp .eq 13, 3) := by decide +kernel
theorem dX0_append_5 : decode cX0_append 5 = .ok (.aload_n 0, 1) := by decide +kernel
theorem dX0_append_6 : decode cX0_append 6 = .ok (.getfield 39, 3) := by decide +kernel
theorem dX0_append_9 : decode cX0_append 9 = .ok (.iload_n 2, 1) := by decide +kernel
theorem dX0_append_10 : decode cX0_append 10 = .ok (.aload_n 0, 1) := by decide +kernel
theorem dX0_append_11 : decode cX0_append 11 = .ok (.getfield 9, 3) := by decide +kernel
theorem dX0_append_14 : decode cX0_append 14 = .ok (.iastore, 1) := by decide +kernel
theorem dX0_append_15 : decode cX0_append 15 = .ok (.aload_n 0, 1) := by decide +kernel
theorem dX0_append_16 : decode cX0_append 16 = .ok (.getfield 15, 3) := by decide +kernel
theorem dX0_append_19 : decode cX0_append 19 = .ok (.istore_n 3, 1) := by decide +kernel
theorem dX0_append_20 : decode cX0_append 20 = .ok (.aload_n 0, 1) := by decide +kernel
theorem dX0_append_21 : decode cX0_append 21 = .ok (.dup, 1) := by decide +kernel
theorem dX0_append_22 : decode cX0_append 22 = .ok (.getfield 15, 3) := by decide +kernel
theorem dX0_append_25 : decode cX0_append 25 = .ok (.iconst 1, 1) := by decide +kernel
theorem dX0_append_26 : decode cX0_append 26 = .ok (.iadd, 1) := by decide +kernel
theorem dX0_append_27 : decode cX0_append 27 = .ok (.putfield 15, 3) := by decide +kernel
theorem dX0_append_30 : decode cX0_append 30 = .ok (.aload_n 0, 1) := by decide +kernel
theorem dX0_append_31 : decode cX0_append 31 = .ok (.getfield 18, 3) := by decide +kernel
theorem dX0_append_34 : decode cX0_append 34 = .ok (.iload_n 3, 1) := by decide +kernel
theorem dX0_append_35 : decode cX0_append 35 = .ok (.iload_n 1, 1) := by decide +kernel
theorem dX0_append_36 : decode cX0_append 36 = .ok (.iastore, 1) := by decide +kernel
theorem dX0_append_37 : decode cX0_append 37 = .ok (.aload_n 0, 1) := by decide +kernel
theorem dX0_append_38 : decode cX0_append 38 = .ok (.getfield 22, 3) := by decide +kernel
theorem dX0_append_41 : decode cX0_append 41 = .ok (.iload_n 3, 1) := by decide +kernel
theorem dX0_append_42 : decode cX0_append 42 = .ok (.aload_n 0, 1) := by decide +kernel
theorem dX0_append_43 : decode cX0_append 43 = .ok (.getfield 9, 3) := by decide +kernel
theorem dX0_append_46 : decode cX0_append 46 = .ok (.iastore, 1) := by decide +kernel
theorem dX0_append_47 : decode cX0_append 47 = .ok (.aload_n 0, 1) := by decide +kernel
theorem dX0_append_48 : decode cX0_append 48 = .ok (.getfield 39, 3) := by decide +kernel
theorem dX0_append_51 : decode cX0_append 51 = .ok (.iload_n 3, 1) := by decide +kernel
theorem dX0_append_52 : decode cX0_append 52 = .ok (.sipush 301, 3) := by decide +kernel
theorem dX0_append_55 : decode cX0_append 55 = .ok (.iastore, 1) := by decide +kernel
theorem dX0_append_56 : decode cX0_append 56 = .ok (.aload_n 0, 1) := by decide +kernel
theorem dX0_append_57 : decode cX0_append 57 = .ok (.iload_n 3, 1) := by decide +kernel
theorem dX0_append_58 : decode cX0_append 58 = .ok (.invokevirtual 52, 3) := by decide +kernel
theorem dX0_append_61 : decode cX0_append 61 = .ok (.iload_n 3, 1) := by decide +kernel
theorem dX0_append_62 : decode cX0_append 62 = .ok (.ireturn, 1) := by decide +kernel
theorem dX0_sortIn_0 : decode cX0_sortIn 0 = .ok (.iload_n 1, 1) := by decide +kernel
theorem dX0_sortIn_1 : decode cX0_sortIn 1 = .ok (.istore_n 2, 1) := by decide +kernel
theorem dX0_sortIn_2 : decode cX0_sortIn 2 = .ok (.iload_n 2, 1) := by decide +kernel
theorem dX0_sortIn_3 : decode cX0_sortIn 3 = .ok (.ifCond .le 45, 3) := by decide +kernel
theorem dX0_sortIn_6 : decode cX0_sortIn 6 = .ok (.aload_n 0, 1) := by decide +kernel
theorem dX0_sortIn_7 : decode cX0_sortIn 7 = .ok (.getfield 18, 3) := by decide +kernel
theorem dX0_sortIn_10 : decode cX0_sortIn 10 = .ok (.aload_n 0, 1) := by decide +kernel
theorem dX0_sortIn_11 : decode cX0_sortIn 11 = .ok (.getfield 42, 3) := by decide +kernel
theorem dX0_sortIn_14 : decode cX0_sortIn 14 = .ok (.iload_n 2, 1) := by decide +kernel
theorem dX0_sortIn_15 : decode cX0_sortIn 15 = .ok (.iconst 1, 1) := by decide +kernel
theorem dX0_sortIn_16 : decode cX0_sortIn 16 = .ok (.isub, 1) := by decide +kernel
theorem dX0_sortIn_17 : decode cX0_sortIn 17 = .ok (.iaload, 1) := by decide +kernel
theorem dX0_sortIn_18 : decode cX0_sortIn 18 = .ok (.iaload, 1) := by decide +kernel
theorem dX0_sortIn_19 : decode cX0_sortIn 19 = .ok (.aload_n 0, 1) := by decide +kernel
theorem dX0_sortIn_20 : decode cX0_sortIn 20 = .ok (.getfield 18, 3) := by decide +kernel
theorem dX0_sortIn_23 : decode cX0_sortIn 23 = .ok (.iload_n 1, 1) := by decide +kernel
theorem dX0_sortIn_24 : decode cX0_sortIn 24 = .ok (.iaload, 1) := by decide +kernel
theorem dX0_sortIn_25 : decode cX0_sortIn 25 = .ok (.if_icmp .le 23, 3) := by decide +kernel
theorem dX0_sortIn_28 : decode cX0_sortIn 28 = .ok (.aload_n 0, 1) := by decide +kernel
theorem dX0_sortIn_29 : decode cX0_sortIn 29 = .ok (.getfield 42, 3) := by decide +kernel
theorem dX0_sortIn_32 : decode cX0_sortIn 32 = .ok (.iload_n 2, 1) := by decide +kernel
theorem dX0_sortIn_33 : decode cX0_sortIn 33 = .ok (.aload_n 0, 1) := by decide +kernel
theorem dX0_sortIn_34 : decode cX0_sortIn 34 = .ok (.getfield 42, 3) := by decide +kernel
theorem dX0_sortIn_37 : decode cX0_sortIn 37 = .ok (.iload_n 2, 1) := by decide +kernel
theorem dX0_sortIn_38 : decode cX0_sortIn 38 = .ok (.iconst 1, 1) := by decide +kernel
theorem dX0_sortIn_39 : decode cX0_sortIn 39 = .ok (.isub, 1) := by decide +kernel
theorem dX0_sortIn_40 : decode cX0_sortIn 40 = .ok (.iaload, 1) := by decide +kernel
theorem dX0_sortIn_41 : decode cX0_sortIn 41 = .ok (.iastore, 1) := by decide +kernel
theorem dX0_sortIn_42 : decode cX0_sortIn 42 = .ok (.iinc 2 (-1), 3) := by decide +kernel
theorem dX0_sortIn_45 : decode cX0_sortIn 45 = .ok (.goto (-43), 3) := by decide +kernel
theorem dX0_sortIn_48 : decode cX0_sortIn 48 = .ok (.aload_n 0, 1) := by decide +kernel
theorem dX0_sortIn_49 : decode cX0_sortIn 49 = .ok (.getfield 42, 3) := by decide +kernel
theorem dX0_sortIn_52 : decode cX0_sortIn 52 = .ok (.iload_n 2, 1) := by decide +kernel
theorem dX0_sortIn_53 : decode cX0_sortIn 53 = .ok (.iload_n 1, 1) := by decide +kernel
theorem dX0_sortIn_54 : decode cX0_sortIn 54 = .ok (.iastore, 1) := by decide +kernel
theorem dX0_sortIn_55 : decode cX0_sortIn 55 = .ok (.return_, 1) := by decide +kernel
theorem dX0_isThere_0 : decode cX0_isThere 0 = .ok (.aload_n 0, 1) := by decide +kernel
theorem dX0_isThere_1 : decode cX0_isThere 1 = .ok (.iload_n 1, 1) := by decide +kernel
theorem dX0_isThere_2 : decode cX0_isThere 2 = .ok (.aload_n 0, 1) := by decide +kernel
theorem dX0_isThere_3 : decode cX0_isThere 3 = .ok (.getfield 9, 3) := by decide +kernel
theorem dX0_isThere_6 : decode cX0_isThere 6 = .ok (.invokevirtual 45, 3) := by decide +kernel
theorem dX0_isThere_9 : decode cX0_isThere 9 = .ok (.iconst (-1), 1) := by decide +kernel
theorem dX0_isThere_10 : decode cX0_isThere 10 = .ok (.if_icmp .eq 7, 3) := by decide +kernel
theorem dX0_isThere_13 : decode cX0_isThere 13 = .ok (.iconst 1, 1) := by decide +kernel
theorem dX0_isThere_14 : decode cX0_isThere 14 = .ok (.goto 4, 3) := by decide +kernel
theorem dX0_isThere_17 : decode cX0_isThere 17 = .ok (.iconst 0, 1) := by decide +kernel
theorem dX0_isThere_18 : decode cX0_isThere 18 = .ok (.ireturn, 1) := by decide +kernel
theorem dX0_find_0 : decode cX0_find 0 = .ok (.iconst 0, 1) := by decide +kernel
theorem dX0_find_1 : decode cX0_find 1 = .ok (.istore_n 3, 1) := by decide +kernel
theorem dX0_find_2 : decode cX0_find 2 = .ok (.iload_n 3, 1) := by decide +kernel
theorem dX0_find_3 : decode cX0_find 3 = .ok (.aload_n 0, 1) := by decide +kernel
theorem dX0_find_4 : decode cX0_find 4 = .ok (.getfield 15, 3) := by decide +kernel
theorem dX0_find_7 : decode cX0_find 7 = .ok (.if_icmp .ge 30, 3) := by decide +kernel
theorem dX0_find_10 : decode cX0_find 10 = .ok (.aload_n 0, 1) := by decide +kernel
theorem dX0_find_11 : decode cX0_find 11 = .ok (.getfield 18, 3) := by decide +kernel
theorem dX0_find_14 : decode cX0_find 14 = .ok (.iload_n 3, 1) := by decide +kernel
theorem dX0_find_15 : decode cX0_find 15 = .ok (.iaload, 1) := by decide +kernel
theorem dX0_find_16 : decode cX0_find 16 = .ok (.iload_n 1, 1) := by decide +kernel
theorem dX0_find_17 : decode cX0_find 17 = .ok (.if_icmp .ne 14, 3) := by decide +kernel
theorem dX0_find_20 : decode cX0_find 20 = .ok (.aload_n 0, 1) := by decide +kernel
theorem dX0_find_21 : decode cX0_find 21 = .ok (.iload_n 3, 1) := by decide +kernel
theorem dX0_find_22 : decode cX0_find 22 = .ok (.iload_n 2, 1) := by decide +kernel
theorem dX0_find_23 : decode cX0_find 23 = .ok (.invokevirtual 56, 3) := by decide +kernel
theorem dX0_find_26 : decode cX0_find 26 = .ok (.ifCond .eq 5, 3) := by decide +kernel
theorem dX0_find_29 : decode cX0_find 29 = .ok (.iload_n 3, 1) := by decide +kernel
theorem dX0_find_30 : decode cX0_find 30 = .ok (.ireturn, 1) := by decide +kernel
theorem dX0_find_31 : decode cX0_find 31 = .ok (.iinc 3 1, 3) := by decide +kernel
theorem dX0_find_34 : decode cX0_find 34 = .ok (.goto (-32), 3) := by decide +kernel
theorem dX0_find_37 : decode cX0_find 37 = .ok (.iconst (-1), 1) := by decide +kernel
theorem dX0_find_38 : decode cX0_find 38 = .ok (.ireturn, 1) := by decide +kernel
theorem dX0_holds_0 : decode cX0_holds 0 = .ok (.aload_n 0, 1) := by decide +kernel
theorem dX0_holds_1 : decode cX0_holds 1 = .ok (.getfield 25, 3) := by decide +kernel
theorem dX0_holds_4 : decode cX0_holds 4 = .ok (.iload_n 1, 1) := by decide +kernel
theorem dX0_holds_5 : decode cX0_holds 5 = .ok (.baload, 1) := by decide +kernel
theorem dX0_holds_6 : decode cX0_holds 6 = .ok (.ifCond .eq 27, 3) := by decide +kernel
theorem dX0_holds_9 : decode cX0_holds 9 = .ok (.aload_n 0, 1) := by decide +kernel
theorem dX0_holds_10 : decode cX0_holds 10 = .ok (.getfield 22, 3) := by decide +kernel
theorem dX0_holds_13 : decode cX0_holds 13 = .ok (.iload_n 1, 1) := by decide +kernel
theorem dX0_holds_14 : decode cX0_holds 14 = .ok (.iaload, 1) := by decide +kernel
theorem dX0_holds_15 : decode cX0_holds 15 = .ok (.iload_n 2, 1) := by decide +kernel
theorem dX0_holds_16 : decode cX0_holds 16 = .ok (.if_icmp .gt 17, 3) := by decide +kernel
theorem dX0_holds_19 : decode cX0_holds 19 = .ok (.iload_n 2, 1) := by decide +kernel
theorem dX0_holds_20 : decode cX0_holds 20 = .ok (.aload_n 0, 1) := by decide +kernel
theorem dX0_holds_21 : decode cX0_holds 21 = .ok (.getfield 39, 3) := by decide +kernel
theorem dX0_holds_24 : decode cX0_holds 24 = .ok (.iload_n 1, 1) := by decide +kernel
theorem dX0_holds_25 : decode cX0_holds 25 = .ok (.iaload, 1) := by decide +kernel
theorem dX0_holds_26 : decode cX0_holds 26 = .ok (.if_icmp .ge 7, 3) := by decide +kernel
theorem dX0_holds_29 : decode cX0_holds 29 = .ok (.iconst 1, 1) := by decide +kernel
theorem dX0_holds_30 : decode cX0_holds 30 = .ok (.goto 4, 3) := by decide +kernel
theorem dX0_holds_33 : decode cX0_holds 33 = .ok (.iconst 0, 1) := by decide +kernel
theorem dX0_holds_34 : decode cX0_holds 34 = .ok (.ireturn, 1) := by decide +kernel
theorem dX0_read_0 : decode cX0_read 0 = .ok (.aload_n 0, 1) := by decide +kernel
theorem dX0_read_1 : decode cX0_read 1 = .ok (.iload_n 1, 1) := by decide +kernel
theorem dX0_read_2 : decode cX0_read 2 = .ok (.iload_n 2, 1) := by decide +kernel
theorem dX0_read_3 : decode cX0_read 3 = .ok (.invokevirtual 45, 3) := by decide +kernel
theorem dX0_read_6 : decode cX0_read 6 = .ok (.istore 4, 2) := by decide +kernel
theorem dX0_read_8 : decode cX0_read 8 = .ok (.iload 4, 2) := by decide +kernel
theorem dX0_read_10 : decode cX0_read 10 = .ok (.iconst (-1), 1) := by decide +kernel
theorem dX0_read_11 : decode cX0_read 11 = .ok (.if_icmp .ne 5, 3) := by decide +kernel
theorem dX0_read_14 : decode cX0_read 14 = .ok (.lconst 0, 1) := by decide +kernel
theorem dX0_read_15 : decode cX0_read 15 = .ok (.lreturn, 1) := by decide +kernel
theorem dX0_read_16 : decode cX0_read 16 = .ok (.iload_n 3, 1) := by decide +kernel
theorem dX0_read_17 : decode cX0_read 17 = .ok (.tableswitch 53 0 2 #[27, 35, 44], 27) := by decide +kernel
theorem dX0_read_44 : decode cX0_read 44 = .ok (.aload_n 0, 1) := by decide +kernel
theorem dX0_read_45 : decode cX0_read 45 = .ok (.getfield 29, 3) := by decide +kernel
theorem dX0_read_48 : decode cX0_read 48 = .ok (.iload 4, 2) := by decide +kernel
theorem dX0_read_50 : decode cX0_read 50 = .ok (.laload, 1) := by decide +kernel
theorem dX0_read_51 : decode cX0_read 51 = .ok (.lreturn, 1) := by decide +kernel
theorem dX0_read_52 : decode cX0_read 52 = .ok (.aload_n 0, 1) := by decide +kernel
theorem dX0_read_53 : decode cX0_read 53 = .ok (.getfield 33, 3) := by decide +kernel
theorem dX0_read_56 : decode cX0_read 56 = .ok (.iload 4, 2) := by decide +kernel
theorem dX0_read_58 : decode cX0_read 58 = .ok (.iaload, 1) := by decide +kernel
theorem dX0_read_59 : decode cX0_read 59 = .ok (.i2l, 1) := by decide +kernel
theorem dX0_read_60 : decode cX0_read 60 = .ok (.lreturn, 1) := by decide +kernel
theorem dX0_read_61 : decode cX0_read 61 = .ok (.aload_n 0, 1) := by decide +kernel
theorem dX0_read_62 : decode cX0_read 62 = .ok (.getfield 36, 3) := by decide +kernel
theorem dX0_read_65 : decode cX0_read 65 = .ok (.iload 4, 2) := by decide +kernel
theorem dX0_read_67 : decode cX0_read 67 = .ok (.iaload, 1) := by decide +kernel
theorem dX0_read_68 : decode cX0_read 68 = .ok (.i2l, 1) := by decide +kernel
theorem dX0_read_69 : decode cX0_read 69 = .ok (.lreturn, 1) := by decide +kernel
theorem dX0_read_70 : decode cX0_read 70 = .ok (.aload_n 0, 1) := by decide +kernel
theorem dX0_read_71 : decode cX0_read 71 = .ok (.getfield 22, 3) := by decide +kernel
theorem dX0_read_74 : decode cX0_read 74 = .ok (.iload 4, 2) := by decide +kernel
theorem dX0_read_76 : decode cX0_read 76 = .ok (.iaload, 1) := by decide +kernel
theorem dX0_read_77 : decode cX0_read 77 = .ok (.i2l, 1) := by decide +kernel
theorem dX0_read_78 : decode cX0_read 78 = .ok (.lreturn, 1) := by decide +kernel
theorem dX0_keysWithin_0 : decode cX0_keysWithin 0 = .ok (.iconst 0, 1) := by decide +kernel
theorem dX0_keysWithin_1 : decode cX0_keysWithin 1 = .ok (.istore 4, 2) := by decide +kernel
theorem dX0_keysWithin_3 : decode cX0_keysWithin 3 = .ok (.iconst 0, 1) := by decide +kernel
theorem dX0_keysWithin_4 : decode cX0_keysWithin 4 = .ok (.istore 5, 2) := by decide +kernel
theorem dX0_keysWithin_6 : decode cX0_keysWithin 6 = .ok (.iload 5, 2) := by decide +kernel
theorem dX0_keysWithin_8 : decode cX0_keysWithin 8 = .ok (.aload_n 0, 1) := by decide +kernel
theorem dX0_keysWithin_9 : decode cX0_keysWithin 9 = .ok (.getfield 15, 3) := by decide +kernel
theorem dX0_keysWithin_12 : decode cX0_keysWithin 12 = .ok (.if_icmp .ge 24, 3) := by decide +kernel
theorem dX0_keysWithin_15 : decode cX0_keysWithin 15 = .ok (.aload_n 0, 1) := by decide +kernel
theorem dX0_keysWithin_16 : decode cX0_keysWithin 16 = .ok (.iload 5, 2) := by decide +kernel
theorem dX0_keysWithin_18 : decode cX0_keysWithin 18 = .ok (.iload_n 1, 1) := by decide +kernel
theorem dX0_keysWithin_19 : decode cX0_keysWithin 19 = .ok (.iload_n 2, 1) := by decide +kernel
theorem dX0_keysWithin_20 : decode cX0_keysWithin 20 = .ok (.iload_n 3, 1) := by decide +kernel
theorem dX0_keysWithin_21 : decode cX0_keysWithin 21 = .ok (.invokevirtual 60, 3) := by decide +kernel
theorem dX0_keysWithin_24 : decode cX0_keysWithin 24 = .ok (.ifCond .eq 6, 3) := by decide +kernel
theorem dX0_keysWithin_27 : decode cX0_keysWithin 27 = .ok (.iinc 4 1, 3) := by decide +kernel
theorem dX0_keysWithin_30 : decode cX0_keysWithin 30 = .ok (.iinc 5 1, 3) := by decide +kernel
theorem dX0_keysWithin_33 : decode cX0_keysWithin 33 = .ok (.goto (-27), 3) := by decide +kernel
theorem dX0_keysWithin_36 : decode cX0_keysWithin 36 = .ok (.iload 4, 2) := by decide +kernel
theorem dX0_keysWithin_38 : decode cX0_keysWithin 38 = .ok (.ireturn, 1) := by decide +kernel
theorem dX0_findWithin_0 : decode cX0_findWithin 0 = .ok (.iconst 0, 1) := by decide +kernel
theorem dX0_findWithin_1 : decode cX0_findWithin 1 = .ok (.istore 5, 2) := by decide +kernel
theorem dX0_findWithin_3 : decode cX0_findWithin 3 = .ok (.iconst 0, 1) := by decide +kernel
theorem dX0_findWithin_4 : decode cX0_findWithin 4 = .ok (.istore 6, 2) := by decide +kernel
theorem dX0_findWithin_6 : decode cX0_findWithin 6 = .ok (.iload 6, 2) := by decide +kernel
theorem dX0_findWithin_8 : decode cX0_findWithin 8 = .ok (.aload_n 0, 1) := by decide +kernel
theorem dX0_findWithin_9 : decode cX0_findWithin 9 = .ok (.getfield 15, 3) := by decide +kernel
theorem dX0_findWithin_12 : decode cX0_findWithin 12 = .ok (.if_icmp .ge 43, 3) := by decide +kernel
theorem dX0_findWithin_15 : decode cX0_findWithin 15 = .ok (.aload_n 0, 1) := by decide +kernel
theorem dX0_findWithin_16 : decode cX0_findWithin 16 = .ok (.getfield 42, 3) := by decide +kernel
theorem dX0_findWithin_19 : decode cX0_findWithin 19 = .ok (.iload 6, 2) := by decide +kernel
theorem dX0_findWithin_21 : decode cX0_findWithin 21 = .ok (.iaload, 1) := by decide +kernel
theorem dX0_findWithin_22 : decode cX0_findWithin 22 = .ok (.istore 7, 2) := by decide +kernel
theorem dX0_findWithin_24 : decode cX0_findWithin 24 = .ok (.aload_n 0, 1) := by decide +kernel
theorem dX0_findWithin_25 : decode cX0_findWithin 25 = .ok (.iload 7, 2) := by decide +kernel
theorem dX0_findWithin_27 : decode cX0_findWithin 27 = .ok (.iload_n 1, 1) := by decide +kernel
theorem dX0_findWithin_28 : decode cX0_findWithin 28 = .ok (.iload_n 2, 1) := by decide +kernel
theorem dX0_findWithin_29 : decode cX0_findWithin 29 = .ok (.iload_n 3, 1) := by decide +kernel
theorem dX0_findWithin_30 : decode cX0_findWithin 30 = .ok (.invokevirtual 60, 3) := by decide +kernel
theorem dX0_findWithin_33 : decode cX0_findWithin 33 = .ok (.ifCond .eq 16, 3) := by decide +kernel
theorem dX0_findWithin_36 : decode cX0_findWithin 36 = .ok (.iload 5, 2) := by decide +kernel
theorem dX0_findWithin_38 : decode cX0_findWithin 38 = .ok (.iload 4, 2) := by decide +kernel
theorem dX0_findWithin_40 : decode cX0_findWithin 40 = .ok (.if_icmp .ne 6, 3) := by decide +kernel
theorem dX0_findWithin_43 : decode cX0_findWithin 43 = .ok (.iload 7, 2) := by decide +kernel
theorem dX0_findWithin_45 : decode cX0_findWithin 45 = .ok (.ireturn, 1) := by decide +kernel
theorem dX0_findWithin_46 : decode cX0_findWithin 46 = .ok (.iinc 5 1, 3) := by decide +kernel
theorem dX0_findWithin_49 : decode cX0_findWithin 49 = .ok (.iinc 6 1, 3) := by decide +kernel
theorem dX0_findWithin_52 : decode cX0_findWithin 52 = .ok (.goto (-46), 3) := by decide +kernel
theorem dX0_findWithin_55 : decode cX0_findWithin 55 = .ok (.iconst (-1), 1) := by decide +kernel
theorem dX0_findWithin_56 : decode cX0_findWithin 56 = .ok (.ireturn, 1) := by decide +kernel
theorem dX0_holdsWithin_0 : decode cX0_holdsWithin 0 = .ok (.aload_n 0, 1) := by decide +kernel
theorem dX0_holdsWithin_1 : decode cX0_holdsWithin 1 = .ok (.getfield 18, 3) := by decide +kernel
theorem dX0_holdsWithin_4 : decode cX0_holdsWithin 4 = .ok (.iload_n 1, 1) := by decide +kernel
theorem dX0_holdsWithin_5 : decode cX0_holdsWithin 5 = .ok (.iaload, 1) := by decide +kernel
theorem dX0_holdsWithin_6 : decode cX0_holdsWithin 6 = .ok (.iload_n 2, 1) := by decide +kernel
theorem dX0_holdsWithin_7 : decode cX0_holdsWithin 7 = .ok (.if_icmp .lt 27, 3) := by decide +kernel
theorem dX0_holdsWithin_10 : decode cX0_holdsWithin 10 = .ok (.aload_n 0, 1) := by decide +kernel
theorem dX0_holdsWithin_11 : decode cX0_holdsWithin 11 = .ok (.getfield 18, 3) := by decide +kernel
theorem dX0_holdsWithin_14 : decode cX0_holdsWithin 14 = .ok (.iload_n 1, 1) := by decide +kernel
theorem dX0_holdsWithin_15 : decode cX0_holdsWithin 15 = .ok (.iaload, 1) := by decide +kernel
theorem dX0_holdsWithin_16 : decode cX0_holdsWithin 16 = .ok (.iload_n 3, 1) := by decide +kernel
theorem dX0_holdsWithin_17 : decode cX0_holdsWithin 17 = .ok (.if_icmp .ge 17, 3) := by decide +kernel
theorem dX0_holdsWithin_20 : decode cX0_holdsWithin 20 = .ok (.aload_n 0, 1) := by decide +kernel
theorem dX0_holdsWithin_21 : decode cX0_holdsWithin 21 = .ok (.iload_n 1, 1) := by decide +kernel
theorem dX0_holdsWithin_22 : decode cX0_holdsWithin 22 = .ok (.iload 4, 2) := by decide +kernel
theorem dX0_holdsWithin_24 : decode cX0_holdsWithin 24 = .ok (.invokevirtual 56, 3) := by decide +kernel
theorem dX0_holdsWithin_27 : decode cX0_holdsWithin 27 = .ok (.ifCond .eq 7, 3) := by decide +kernel
theorem dX0_holdsWithin_30 : decode cX0_holdsWithin 30 = .ok (.iconst 1, 1) := by decide +kernel
theorem dX0_holdsWithin_31 : decode cX0_holdsWithin 31 = .ok (.goto 4, 3) := by decide +kernel
theorem dX0_holdsWithin_34 : decode cX0_holdsWithin 34 = .ok (.iconst 0, 1) := by decide +kernel
theorem dX0_holdsWithin_35 : decode cX0_holdsWithin 35 = .ok (.ireturn, 1) := by decide +kernel
theorem dX0_keysNow_0 : decode cX0_keysNow 0 = .ok (.iconst 0, 1) := by decide +kernel
theorem dX0_keysNow_1 : decode cX0_keysNow 1 = .ok (.istore_n 1, 1) := by decide +kernel
theorem dX0_keysNow_2 : decode cX0_keysNow 2 = .ok (.iconst 0, 1) := by decide +kernel
theorem dX0_keysNow_3 : decode cX0_keysNow 3 = .ok (.istore_n 2, 1) := by decide +kernel
theorem dX0_keysNow_4 : decode cX0_keysNow 4 = .ok (.iload_n 2, 1) := by decide +kernel
theorem dX0_keysNow_5 : decode cX0_keysNow 5 = .ok (.aload_n 0, 1) := by decide +kernel
theorem dX0_keysNow_6 : decode cX0_keysNow 6 = .ok (.getfield 15, 3) := by decide +kernel
theorem dX0_keysNow_9 : decode cX0_keysNow 9 = .ok (.if_icmp .ge 24, 3) := by decide +kernel
theorem dX0_keysNow_12 : decode cX0_keysNow 12 = .ok (.aload_n 0, 1) := by decide +kernel
theorem dX0_keysNow_13 : decode cX0_keysNow 13 = .ok (.iload_n 2, 1) := by decide +kernel
theorem dX0_keysNow_14 : decode cX0_keysNow 14 = .ok (.aload_n 0, 1) := by decide +kernel
theorem dX0_keysNow_15 : decode cX0_keysNow 15 = .ok (.getfield 9, 3) := by decide +kernel
theorem dX0_keysNow_18 : decode cX0_keysNow 18 = .ok (.invokevirtual 56, 3) := by decide +kernel
theorem dX0_keysNow_21 : decode cX0_keysNow 21 = .ok (.ifCond .eq 6, 3) := by decide +kernel
theorem dX0_keysNow_24 : decode cX0_keysNow 24 = .ok (.iinc 1 1, 3) := by decide +kernel
theorem dX0_keysNow_27 : decode cX0_keysNow 27 = .ok (.iinc 2 1, 3) := by decide +kernel
theorem dX0_keysNow_30 : decode cX0_keysNow 30 = .ok (.goto (-26), 3) := by decide +kernel
theorem dX0_keysNow_33 : decode cX0_keysNow 33 = .ok (.iload_n 1, 1) := by decide +kernel
theorem dX0_keysNow_34 : decode cX0_keysNow 34 = .ok (.ireturn, 1) := by decide +kernel
theorem dX0_firstEventFrom_0 : decode cX0_firstEventFrom 0 = .ok (.iconst 0, 1) := by decide +kernel
theorem dX0_firstEventFrom_1 : decode cX0_firstEventFrom 1 = .ok (.istore_n 2, 1) := by decide +kernel
theorem dX0_firstEventFrom_2 : decode cX0_firstEventFrom 2 = .ok (.iload_n 2, 1) := by decide +kernel
theorem dX0_firstEventFrom_3 : decode cX0_firstEventFrom 3 = .ok (.aload_n 0, 1) := by decide +kernel
theorem dX0_firstEventFrom_4 : decode cX0_firstEventFrom 4 = .ok (.getfield 15, 3) := by decide +kernel
theorem dX0_firstEventFrom_7 : decode cX0_firstEventFrom 7 = .ok (.if_icmp .ge 19, 3) := by decide +kernel
theorem dX0_firstEventFrom_10 : decode cX0_firstEventFrom 10 = .ok (.aload_n 0, 1) := by decide +kernel
theorem dX0_firstEventFrom_11 : decode cX0_firstEventFrom 11 = .ok (.getfield 22, 3) := by decide +kernel
theorem dX0_firstEventFrom_14 : decode cX0_firstEventFrom 14 = .ok (.iload_n 2, 1) := by decide +kernel
theorem dX0_firstEventFrom_15 : decode cX0_firstEventFrom 15 = .ok (.iaload, 1) := by decide +kernel
theorem dX0_firstEventFrom_16 : decode cX0_firstEventFrom 16 = .ok (.iload_n 1, 1) := by decide +kernel
theorem dX0_firstEventFrom_17 : decode cX0_firstEventFrom 17 = .ok (.if_icmp .ge 9, 3) := by decide +kernel
theorem dX0_firstEventFrom_20 : decode cX0_firstEventFrom 20 = .ok (.iinc 2 1, 3) := by decide +kernel
theorem dX0_firstEventFrom_23 : decode cX0_firstEventFrom 23 = .ok (.goto (-21), 3) := by decide +kernel
theorem dX0_firstEventFrom_26 : decode cX0_firstEventFrom 26 = .ok (.iload_n 2, 1) := by decide +kernel
theorem dX0_firstEventFrom_27 : decode cX0_firstEventFrom 27 = .ok (.ireturn, 1) := by decide +kernel
theorem dX0_describe_0 : decode cX0_describe 0 = .ok (.iload_n 2, 1) := by decide +kernel
theorem dX0_describe_1 : decode cX0_describe 1 = .ok (.lookupswitch 41 #[(0, 27), (1, 34)], 27) := by decide +kernel
theorem dX0_describe_28 : decode cX0_describe 28 = .ok (.aload_n 0, 1) := by decide +kernel
theorem dX0_describe_29 : decode cX0_describe 29 = .ok (.getfield 18, 3) := by decide +kernel
theorem dX0_describe_32 : decode cX0_describe 32 = .ok (.iload_n 1, 1) := by decide +kernel
theorem dX0_describe_33 : decode cX0_describe 33 = .ok (.iaload, 1) := by decide +kernel
theorem dX0_describe_34 : decode cX0_describe 34 = .ok (.ireturn, 1) := by decide +kernel
theorem dX0_describe_35 : decode cX0_describe 35 = .ok (.aload_n 0, 1) := by decide +kernel
theorem dX0_describe_36 : decode cX0_describe 36 = .ok (.getfield 22, 3) := by decide +kernel
theorem dX0_describe_39 : decode cX0_describe 39 = .ok (.iload_n 1, 1) := by decide +kernel
theorem dX0_describe_40 : decode cX0_describe 40 = .ok (.iaload, 1) := by decide +kernel
theorem dX0_describe_41 : decode cX0_describe 41 = .ok (.ireturn, 1) := by decide +kernel
theorem dX0_describe_42 : decode cX0_describe 42 = .ok (.aload_n 0, 1) := by decide +kernel
theorem dX0_describe_43 : decode cX0_describe 43 = .ok (.getfield 25, 3) := by decide +kernel
theorem dX0_describe_46 : decode cX0_describe 46 = .ok (.iload_n 1, 1) := by decide +kernel
theorem dX0_describe_47 : decode cX0_describe 47 = .ok (.baload, 1) := by decide +kernel
theorem dX0_describe_48 : decode cX0_describe 48 = .ok (.ifCond .eq 7, 3) := by decide +kernel
theorem dX0_describe_51 : decode cX0_describe 51 = .ok (.iconst 1, 1) := by decide +kernel
theorem dX0_describe_52 : decode cX0_describe 52 = .ok (.goto 4, 3) := by decide +kernel
theorem dX0_describe_55 : decode cX0_describe 55 = .ok (.iconst 0, 1) := by decide +kernel
theorem dX0_describe_56 : decode cX0_describe 56 = .ok (.ireturn, 1) := by decide +kernel
theorem dX1_init_0 : decode cX1_init 0 = .ok (.aload_n 0, 1) := by decide +kernel
theorem dX1_init_1 : decode cX1_init 1 = .ok (.invokespecial 3, 3) := by decide +kernel
theorem dX1_init_4 : decode cX1_init 4 = .ok (.aload_n 0, 1) := by decide +kernel
theorem dX1_init_5 : decode cX1_init 5 = .ok (.iconst 0, 1) := by decide +kernel
theorem dX1_init_6 : decode cX1_init 6 = .ok (.putfield 9, 3) := by decide +kernel
theorem dX1_init_9 : decode cX1_init 9 = .ok (.aload_n 0, 1) := by decide +kernel
theorem dX1_init_10 : decode cX1_init 10 = .ok (.bipush 20, 2) := by decide +kernel
theorem dX1_init_12 : decode cX1_init 12 = .ok (.newarray .int, 2) := by decide +kernel
theorem dX1_init_14 : decode cX1_init 14 = .ok (.putfield 15, 3) := by decide +kernel
theorem dX1_init_17 : decode cX1_init 17 = .ok (.aload_n 0, 1) := by decide +kernel
theorem dX1_init_18 : decode cX1_init 18 = .ok (.bipush 20, 2) := by decide +kernel
theorem dX1_init_20 : decode cX1_init 20 = .ok (.newarray .boolean, 2) := by decide +kernel
theorem dX1_init_22 : decode cX1_init 22 = .ok (.putfield 19, 3) := by decide +kernel
theorem dX1_init_25 : decode cX1_init 25 = .ok (.aload_n 0, 1) := by decide +kernel
theorem dX1_init_26 : decode cX1_init 26 = .ok (.bipush 20, 2) := by decide +kernel
theorem dX1_init_28 : decode cX1_init 28 = .ok (.newarray .long, 2) := by decide +kernel
theorem dX1_init_30 : decode cX1_init 30 = .ok (.putfield 23, 3) := by decide +kernel
theorem dX1_init_33 : decode cX1_init 33 = .ok (.return_, 1) := by decide +kernel
theorem dX1_append_0 : decode cX1_append 0 = .ok (.aload_n 0, 1) := by decide +kernel
theorem dX1_append_1 : decode cX1_append 1 = .ok (.getfield 15, 3) := by decide +kernel
theorem dX1_append_4 : decode cX1_append 4 = .ok (.aload_n 0, 1) := by decide +kernel
theorem dX1_append_5 : decode cX1_append 5 = .ok (.getfield 9, 3) := by decide +kernel
theorem dX1_append_8 : decode cX1_append 8 = .ok (.iload_n 1, 1) := by decide +kernel
theorem dX1_append_9 : decode cX1_append 9 = .ok (.iastore, 1) := by decide +kernel
theorem dX1_append_10 : decode cX1_append 10 = .ok (.aload_n 0, 1) := by decide +kernel
theorem dX1_append_11 : decode cX1_append 11 = .ok (.getfield 19, 3) := by decide +kernel
theorem dX1_append_14 : decode cX1_append 14 = .ok (.aload_n 0, 1) := by decide +kernel
theorem dX1_append_15 : decode cX1_append 15 = .ok (.getfield 9, 3) := by decide +kernel
theorem dX1_append_18 : decode cX1_append 18 = .ok (.iload_n 2, 1) := by decide +kernel
theorem dX1_append_19 : decode cX1_append 19 = .ok (.bastore, 1) := by decide +kernel
theorem dX1_append_20 : decode cX1_append 20 = .ok (.aload_n 0, 1) := by decide +kernel
theorem dX1_append_21 : decode cX1_append 21 = .ok (.getfield 23, 3) := by decide +kernel
theorem dX1_append_24 : decode cX1_append 24 = .ok (.aload_n 0, 1) := by decide +kernel
theorem dX1_append_25 : decode cX1_append 25 = .ok (.getfield 9, 3) := by decide +kernel
theorem dX1_append_28 : decode cX1_append 28 = .ok (.lload_n 3, 1) := by decide +kernel
theorem dX1_append_29 : decode cX1_append 29 = .ok (.lastore, 1) := by decide +kernel
theorem dX1_append_30 : decode cX1_append 30 = .ok (.aload_n 0, 1) := by decide +kernel
theorem dX1_append_31 : decode cX1_append 31 = .ok (.dup, 1) := by decide +kernel
theorem dX1_append_32 : decode cX1_append 32 = .ok (.getfield 9, 3) := by decide +kernel
theorem dX1_append_35 : decode cX1_append 35 = .ok (.iconst 1, 1) := by decide +kernel
theorem dX1_append_36 : decode cX1_append 36 = .ok (.iadd, 1) := by decide +kernel
theorem dX1_append_37 : decode cX1_append 37 = .ok (.putfield 9, 3) := by decide +kernel
theorem dX1_append_40 : decode cX1_append 40 = .ok (.return_, 1) := by decide +kernel
theorem dX1_clear_0 : decode cX1_clear 0 = .ok (.aload_n 0, 1) := by decide +kernel
theorem dX1_clear_1 : decode cX1_clear 1 = .ok (.iconst 0, 1) := by decide +kernel
theorem dX1_clear_2 : decode cX1_clear 2 = .ok (.putfield 9, 3) := by decide +kernel
theorem dX1_clear_5 : decode cX1_clear 5 = .ok (.return_, 1) := by decide +kernel
theorem dX1_eventsOn_0 : decode cX1_eventsOn 0 = .ok (.iconst 0, 1) := by decide +kernel
theorem dX1_eventsOn_1 : decode cX1_eventsOn 1 = .ok (.istore_n 2, 1) := by decide +kernel
theorem dX1_eventsOn_2 : decode cX1_eventsOn 2 = .ok (.iconst 0, 1) := by decide +kernel
theorem dX1_eventsOn_3 : decode cX1_eventsOn 3 = .ok (.istore_n 3, 1) := by decide +kernel
theorem dX1_eventsOn_4 : decode cX1_eventsOn 4 = .ok (.iload_n 3, 1) := by decide +kernel
theorem dX1_eventsOn_5 : decode cX1_eventsOn 5 = .ok (.aload_n 0, 1) := by decide +kernel
theorem dX1_eventsOn_6 : decode cX1_eventsOn 6 = .ok (.getfield 9, 3) := by decide +kernel
theorem dX1_eventsOn_9 : decode cX1_eventsOn 9 = .ok (.if_icmp .ge 30, 3) := by decide +kernel
theorem dX1_eventsOn_12 : decode cX1_eventsOn 12 = .ok (.aload_n 0, 1) := by decide +kernel
theorem dX1_eventsOn_13 : decode cX1_eventsOn 13 = .ok (.getfield 19, 3) := by decide +kernel
theorem dX1_eventsOn_16 : decode cX1_eventsOn 16 = .ok (.iload_n 3, 1) := by decide +kernel
theorem dX1_eventsOn_17 : decode cX1_eventsOn 17 = .ok (.baload, 1) := by decide +kernel
theorem dX1_eventsOn_18 : decode cX1_eventsOn 18 = .ok (.ifCond .ne 12, 3) := by decide +kernel
theorem dX1_eventsOn_21 : decode cX1_eventsOn 21 = .ok (.aload_n 0, 1) := by decide +kernel
theorem dX1_eventsOn_22 : decode cX1_eventsOn 22 = .ok (.iload_n 3, 1) := by decide +kernel
theorem dX1_eventsOn_23 : decode cX1_eventsOn 23 = .ok (.aload_n 1, 1) := by decide +kernel
theorem dX1_eventsOn_24 : decode cX1_eventsOn 24 = .ok (.invokevirtual 27, 3) := by decide +kernel
theorem dX1_eventsOn_27 : decode cX1_eventsOn 27 = .ok (.ifCond .eq 6, 3) := by decide +kernel
theorem dX1_eventsOn_30 : decode cX1_eventsOn 30 = .ok (.iinc 2 1, 3) := by decide +kernel
theorem dX1_eventsOn_33 : decode cX1_eventsOn 33 = .ok (.iinc 3 1, 3) := by decide +kernel
theorem dX1_eventsOn_36 : decode cX1_eventsOn 36 = .ok (.goto (-32), 3) := by decide +kernel
theorem dX1_eventsOn_39 : decode cX1_eventsOn 39 = .ok (.iload_n 2, 1) := by decide +kernel
theorem dX1_eventsOn_40 : decode cX1_eventsOn 40 = .ok (.ireturn, 1) := by decide +kernel
theorem dX1_isThereBefore_0 : decode cX1_isThereBefore 0 = .ok (.iload_n 1, 1) := by decide +kernel
theorem dX1_isThereBefore_1 : decode cX1_isThereBefore 1 = .ok (.iconst 1, 1) := by decide +kernel
theorem dX1_isThereBefore_2 : decode cX1_isThereBefore 2 = .ok (.isub, 1) := by decide +kernel
theorem dX1_isThereBefore_3 : decode cX1_isThereBefore 3 = .ok (.istore_n 3, 1) := by decide +kernel
theorem dX1_isThereBefore_4 : decode cX1_isThereBefore 4 = .ok (.iload_n 3, 1) := by decide +kernel
theorem dX1_isThereBefore_5 : decode cX1_isThereBefore 5 = .ok (.ifCond .lt 31, 3) := by decide +kernel
theorem dX1_isThereBefore_8 : decode cX1_isThereBefore 8 = .ok (.aload_n 0, 1) := by decide +kernel
theorem dX1_isThereBefore_9 : decode cX1_isThereBefore 9 = .ok (.getfield 15, 3) := by decide +kernel
theorem dX1_isThereBefore_12 : decode cX1_isThereBefore 12 = .ok (.iload_n 3, 1) := by decide +kernel
theorem dX1_isThereBefore_13 : decode cX1_isThereBefore 13 = .ok (.iaload, 1) := by decide +kernel
theorem dX1_isThereBefore_14 : decode cX1_isThereBefore 14 = .ok (.aload_n 0, 1) := by decide +kernel
theorem dX1_isThereBefore_15 : decode cX1_isThereBefore 15 = .ok (.getfield 15, 3) := by decide +kernel
theorem dX1_isThereBefore_18 : decode cX1_isThereBefore 18 = .ok (.iload_n 1, 1) := by decide +kernel
theorem dX1_isThereBefore_19 : decode cX1_isThereBefore 19 = .ok (.iaload, 1) := by decide +kernel
theorem dX1_isThereBefore_20 : decode cX1_isThereBefore 20 = .ok (.if_icmp .ne 10, 3) := by decide +kernel
theorem dX1_isThereBefore_23 : decode cX1_isThereBefore 23 = .ok (.aload_n 0, 1) := by decide +kernel
theorem dX1_isThereBefore_24 : decode cX1_isThereBefore 24 = .ok (.getfield 19, 3) := by decide +kernel
theorem dX1_isThereBefore_27 : decode cX1_isThereBefore 27 = .ok (.iload_n 3, 1) := by decide +kernel
theorem dX1_isThereBefore_28 : decode cX1_isThereBefore 28 = .ok (.baload, 1) := by decide +kernel
theorem dX1_isThereBefore_29 : decode cX1_isThereBefore 29 = .ok (.ireturn, 1) := by decide +kernel
theorem dX1_isThereBefore_30 : decode cX1_isThereBefore 30 = .ok (.iinc 3 (-1), 3) := by decide +kernel
theorem dX1_isThereBefore_33 : decode cX1_isThereBefore 33 = .ok (.goto (-29), 3) := by decide +kernel
theorem dX1_isThereBefore_36 : decode cX1_isThereBefore 36 = .ok (.aload_n 2, 1) := by decide +kernel
theorem dX1_isThereBefore_37 : decode cX1_isThereBefore 37 = .ok (.aload_n 0, 1) := by decide +kernel
theorem dX1_isThereBefore_38 : decode cX1_isThereBefore 38 = .ok (.getfield 15, 3) := by decide +kernel
theorem dX1_isThereBefore_41 : decode cX1_isThereBefore 41 = .ok (.iload_n 1, 1) := by decide +kernel
theorem dX1_isThereBefore_42 : decode cX1_isThereBefore 42 = .ok (.iaload, 1) := by decide +kernel
theorem dX1_isThereBefore_43 : decode cX1_isThereBefore 43 = .ok (.invokevirtual 31, 3) := by decide +kernel
theorem dX1_isThereBefore_46 : decode cX1_isThereBefore 46 = .ok (.ireturn, 1) := by decide +kernel
theorem dX1_applyTo_0 : decode cX1_applyTo 0 = .ok (.iconst 0, 1) := by decide +kernel
theorem dX1_applyTo_1 : decode cX1_applyTo 1 = .ok (.istore_n 2, 1) := by decide +kernel
theorem dX1_applyTo_2 : decode cX1_applyTo 2 = .ok (.iload_n 2, 1) := by decide +kernel
theorem dX1_applyTo_3 : decode cX1_applyTo 3 = .ok (.aload_n 0, 1) := by decide +kernel
theorem dX1_applyTo_4 : decode cX1_applyTo 4 = .ok (.getfield 9, 3) := by decide +kernel
theorem dX1_applyTo_7 : decode cX1_applyTo 7 = .ok (.if_icmp .ge 47, 3) := by decide +kernel
theorem dX1_applyTo_10 : decode cX1_applyTo 10 = .ok (.aload_n 0, 1) := by decide +kernel
theorem dX1_applyTo_11 : decode cX1_applyTo 11 = .ok (.getfield 19, 3) := by decide +kernel
theorem dX1_applyTo_14 : decode cX1_applyTo 14 = .ok (.iload_n 2, 1) := by decide +kernel
theorem dX1_applyTo_15 : decode cX1_applyTo 15 = .ok (.baload, 1) := by decide +kernel
theorem dX1_applyTo_16 : decode cX1_applyTo 16 = .ok (.ifCond .eq 22, 3) := by decide +kernel
theorem dX1_applyTo_19 : decode cX1_applyTo 19 = .ok (.aload_n 1, 1) := by decide +kernel
theorem dX1_applyTo_20 : decode cX1_applyTo 20 = .ok (.aload_n 0, 1) := by decide +kernel
theorem dX1_applyTo_21 : decode cX1_applyTo 21 = .ok (.getfield 15, 3) := by decide +kernel
theorem dX1_applyTo_24 : decode cX1_applyTo 24 = .ok (.iload_n 2, 1) := by decide +kernel
theorem dX1_applyTo_25 : decode cX1_applyTo 25 = .ok (.iaload, 1) := by decide +kernel
theorem dX1_applyTo_26 : decode cX1_applyTo 26 = .ok (.aload_n 0, 1) := by decide +kernel
theorem dX1_applyTo_27 : decode cX1_applyTo 27 = .ok (.getfield 23, 3) := by decide +kernel
theorem dX1_applyTo_30 : decode cX1_applyTo 30 = .ok (.iload_n 2, 1) := by decide +kernel
theorem dX1_applyTo_31 : decode cX1_applyTo 31 = .ok (.laload, 1) := by decide +kernel
theorem dX1_applyTo_32 : decode cX1_applyTo 32 = .ok (.invokevirtual 37, 3) := by decide +kernel
theorem dX1_applyTo_35 : decode cX1_applyTo 35 = .ok (.goto 13, 3) := by decide +kernel
theorem dX1_applyTo_38 : decode cX1_applyTo 38 = .ok (.aload_n 1, 1) := by decide +kernel
theorem dX1_applyTo_39 : decode cX1_applyTo 39 = .ok (.aload_n 0, 1) := by decide +kernel
theorem dX1_applyTo_40 : decode cX1_applyTo 40 = .ok (.getfield 15, 3) := by decide +kernel
theorem dX1_applyTo_43 : decode cX1_applyTo 43 = .ok (.iload_n 2, 1) := by decide +kernel
theorem dX1_applyTo_44 : decode cX1_applyTo 44 = .ok (.iaload, 1) := by decide +kernel
theorem dX1_applyTo_45 : decode cX1_applyTo 45 = .ok (.invokevirtual 41, 3) := by decide +kernel
theorem dX1_applyTo_48 : decode cX1_applyTo 48 = .ok (.iinc 2 1, 3) := by decide +kernel
theorem dX1_applyTo_51 : decode cX1_applyTo 51 = .ok (.goto (-49), 3) := by decide +kernel
theorem dX1_applyTo_54 : decode cX1_applyTo 54 = .ok (.return_, 1) := by decide +kernel
theorem dX2_init_0 : decode cX2_init 0 = .ok (.aload_n 0, 1) := by decide +kernel
theorem dX2_init_1 : decode cX2_init 1 = .ok (.invokespecial 3, 3) := by decide +kernel
theorem dX2_init_4 : decode cX2_init 4 = .ok (.aload_n 0, 1) := by decide +kernel
theorem dX2_init_5 : decode cX2_init 5 = .ok (.iconst 0, 1) := by decide +kernel
theorem dX2_init_6 : decode cX2_init 6 = .ok (.putfield 9, 3) := by decide +kernel
theorem dX2_init_9 : decode cX2_init 9 = .ok (.aload_n 0, 1) := by decide +kernel
theorem dX2_init_10 : decode cX2_init 10 = .ok (.bipush 20, 2) := by decide +kernel
theorem dX2_init_12 : decode cX2_init 12 = .ok (.newarray .int, 2) := by decide +kernel
theorem dX2_init_14 : decode cX2_init 14 = .ok (.putfield 15, 3) := by decide +kernel
theorem dX2_init_17 : decode cX2_init 17 = .ok (.aload_n 0, 1) := by decide +kernel
theorem dX2_init_18 : decode cX2_init 18 = .ok (.bipush 20, 2) := by decide +kernel
theorem dX2_init_20 : decode cX2_init 20 = .ok (.newarray .int, 2) := by decide +kernel
theorem dX2_init_22 : decode cX2_init 22 = .ok (.putfield 19, 3) := by decide +kernel
theorem dX2_init_25 : decode cX2_init 25 = .ok (.aload_n 0, 1) := by decide +kernel
theorem dX2_init_26 : decode cX2_init 26 = .ok (.bipush 20, 2) := by decide +kernel
theorem dX2_init_28 : decode cX2_init 28 = .ok (.newarray .int, 2) := by decide +kernel
theorem dX2_init_30 : decode cX2_init 30 = .ok (.putfield 22, 3) := by decide +kernel
theorem dX2_init_33 : decode cX2_init 33 = .ok (.aload_n 0, 1) := by decide +kernel
theorem dX2_init_34 : decode cX2_init 34 = .ok (.bipush 20, 2) := by decide +kernel
theorem dX2_init_36 : decode cX2_init 36 = .ok (.newarray .long, 2) := by decide +kernel
theorem dX2_init_38 : decode cX2_init 38 = .ok (.putfield 25, 3) := by decide +kernel
theorem dX2_init_41 : decode cX2_init 41 = .ok (.return_, 1) := by decide +kernel
theorem dX2_append_0 : decode cX2_append 0 = .ok (.aload_n 0, 1) := by decide +kernel
theorem dX2_append_1 : decode cX2_append 1 = .ok (.getfield 15, 3) := by decide +kernel
theorem dX2_append_4 : decode cX2_append 4 = .ok (.aload_n 0, 1) := by decide +kernel
theorem dX2_append_5 : decode cX2_append 5 = .ok (.getfield 9, 3) := by decide +kernel
theorem dX2_append_8 : decode cX2_append 8 = .ok (.iload_n 1, 1) := by decide +kernel
theorem dX2_append_9 : decode cX2_append 9 = .ok (.iastore, 1) := by decide +kernel
theorem dX2_append_10 : decode cX2_append 10 = .ok (.aload_n 0, 1) := by decide +kernel
theorem dX2_append_11 : decode cX2_append 11 = .ok (.getfield 19, 3) := by decide +kernel
theorem dX2_append_14 : decode cX2_append 14 = .ok (.aload_n 0, 1) := by decide +kernel
theorem dX2_append_15 : decode cX2_append 15 = .ok (.getfield 9, 3) := by decide +kernel
theorem dX2_append_18 : decode cX2_append 18 = .ok (.iload_n 2, 1) := by decide +kernel
theorem dX2_append_19 : decode cX2_append 19 = .ok (.iastore, 1) := by decide +kernel
theorem dX2_append_20 : decode cX2_append 20 = .ok (.aload_n 0, 1) := by decide +kernel
theorem dX2_append_21 : decode cX2_append 21 = .ok (.getfield 22, 3) := by decide +kernel
theorem dX2_append_24 : decode cX2_append 24 = .ok (.aload_n 0, 1) := by decide +kernel
theorem dX2_append_25 : decode cX2_append 25 = .ok (.getfield 9, 3) := by decide +kernel
theorem dX2_append_28 : decode cX2_append 28 = .ok (.iload_n 3, 1) := by decide +kernel
theorem dX2_append_29 : decode cX2_append 29 = .ok (.iastore, 1) := by decide +kernel
theorem dX2_append_30 : decode cX2_append 30 = .ok (.aload_n 0, 1) := by decide +kernel
theorem dX2_append_31 : decode cX2_append 31 = .ok (.getfield 25, 3) := by decide +kernel
theorem dX2_append_34 : decode cX2_append 34 = .ok (.aload_n 0, 1) := by decide +kernel
theorem dX2_append_35 : decode cX2_append 35 = .ok (.getfield 9, 3) := by decide +kernel
theorem dX2_append_38 : decode cX2_append 38 = .ok (.lload 4, 2) := by decide +kernel
theorem dX2_append_40 : decode cX2_append 40 = .ok (.lastore, 1) := by decide +kernel
theorem dX2_append_41 : decode cX2_append 41 = .ok (.aload_n 0, 1) := by decide +kernel
theorem dX2_append_42 : decode cX2_append 42 = .ok (.dup, 1) := by decide +kernel
theorem dX2_append_43 : decode cX2_append 43 = .ok (.getfield 9, 3) := by decide +kernel
theorem dX2_append_46 : decode cX2_append 46 = .ok (.iconst 1, 1) := by decide +kernel
theorem dX2_append_47 : decode cX2_append 47 = .ok (.iadd, 1) := by decide +kernel
theorem dX2_append_48 : decode cX2_append 48 = .ok (.putfield 9, 3) := by decide +kernel
theorem dX2_append_51 : decode cX2_append 51 = .ok (.return_, 1) := by decide +kernel
theorem dX2_clear_0 : decode cX2_clear 0 = .ok (.aload_n 0, 1) := by decide +kernel
theorem dX2_clear_1 : decode cX2_clear 1 = .ok (.iconst 0, 1) := by decide +kernel
theorem dX2_clear_2 : decode cX2_clear 2 = .ok (.putfield 9, 3) := by decide +kernel
theorem dX2_clear_5 : decode cX2_clear 5 = .ok (.return_, 1) := by decide +kernel
theorem dX2_allHold_0 : decode cX2_allHold 0 = .ok (.iconst 0, 1) := by decide +kernel
theorem dX2_allHold_1 : decode cX2_allHold 1 = .ok (.istore_n 2, 1) := by decide +kernel
theorem dX2_allHold_2 : decode cX2_allHold 2 = .ok (.iload_n 2, 1) := by decide +kernel
theorem dX2_allHold_3 : decode cX2_allHold 3 = .ok (.aload_n 0, 1) := by decide +kernel
theorem dX2_allHold_4 : decode cX2_allHold 4 = .ok (.getfield 9, 3) := by decide +kernel
theorem dX2_allHold_7 : decode cX2_allHold 7 = .ok (.if_icmp .ge 39, 3) := by decide +kernel
theorem dX2_allHold_10 : decode cX2_allHold 10 = .ok (.aload_n 0, 1) := by decide +kernel
theorem dX2_allHold_11 : decode cX2_allHold 11 = .ok (.iload_n 2, 1) := by decide +kernel
theorem dX2_allHold_12 : decode cX2_allHold 12 = .ok (.aload_n 1, 1) := by decide +kernel
theorem dX2_allHold_13 : decode cX2_allHold 13 = .ok (.aload_n 0, 1) := by decide +kernel
theorem dX2_allHold_14 : decode cX2_allHold 14 = .ok (.getfield 15, 3) := by decide +kernel
theorem dX2_allHold_17 : decode cX2_allHold 17 = .ok (.iload_n 2, 1) := by decide +kernel
theorem dX2_allHold_18 : decode cX2_allHold 18 = .ok (.iaload, 1) := by decide +kernel
theorem dX2_allHold_19 : decode cX2_allHold 19 = .ok (.aload_n 1, 1) := by decide +kernel
theorem dX2_allHold_20 : decode cX2_allHold 20 = .ok (.getfield 29, 3) := by decide +kernel
theorem dX2_allHold_23 : decode cX2_allHold 23 = .ok (.aload_n 0, 1) := by decide +kernel
theorem dX2_allHold_24 : decode cX2_allHold 24 = .ok (.getfield 19, 3) := by decide +kernel
theorem dX2_allHold_27 : decode cX2_allHold 27 = .ok (.iload_n 2, 1) := by decide +kernel
theorem dX2_allHold_28 : decode cX2_allHold 28 = .ok (.iaload, 1) := by decide +kernel
theorem dX2_allHold_29 : decode cX2_allHold 29 = .ok (.invokevirtual 34, 3) := by decide +kernel
theorem dX2_allHold_32 : decode cX2_allHold 32 = .ok (.invokevirtual 38, 3) := by decide +kernel
theorem dX2_allHold_35 : decode cX2_allHold 35 = .ok (.ifCond .ne 5, 3) := by decide +kernel
theorem dX2_allHold_38 : decode cX2_allHold 38 = .ok (.iconst 0, 1) := by decide +kernel
theorem dX2_allHold_39 : decode cX2_allHold 39 = .ok (.ireturn, 1) := by decide +kernel
theorem dX2_allHold_40 : decode cX2_allHold 40 = .ok (.iinc 2 1, 3) := by decide +kernel
theorem dX2_allHold_43 : decode cX2_allHold 43 = .ok (.goto (-41), 3) := by decide +kernel
theorem dX2_allHold_46 : decode cX2_allHold 46 = .ok (.iconst 1, 1) := by decide +kernel
theorem dX2_allHold_47 : decode cX2_allHold 47 = .ok (.ireturn, 1) := by decide +kernel
theorem dX2_holds_0 : decode cX2_holds 0 = .ok (.aload_n 0, 1) := by decide +kernel
theorem dX2_holds_1 : decode cX2_holds 1 = .ok (.getfield 22, 3) := by decide +kernel
theorem dX2_holds_4 : decode cX2_holds 4 = .ok (.iload_n 1, 1) := by decide +kernel
theorem dX2_holds_5 : decode cX2_holds 5 = .ok (.iaload, 1) := by decide +kernel
theorem dX2_holds_6 : decode cX2_holds 6 = .ok (.ifCond .ge 20, 3) := by decide +kernel
theorem dX2_holds_9 : decode cX2_holds 9 = .ok (.lload_n 2, 1) := by decide +kernel
theorem dX2_holds_10 : decode cX2_holds 10 = .ok (.aload_n 0, 1) := by decide +kernel
theorem dX2_holds_11 : decode cX2_holds 11 = .ok (.getfield 25, 3) := by decide +kernel
theorem dX2_holds_14 : decode cX2_holds 14 = .ok (.iload_n 1, 1) := by decide +kernel
theorem dX2_holds_15 : decode cX2_holds 15 = .ok (.laload, 1) := by decide +kernel
theorem dX2_holds_16 : decode cX2_holds 16 = .ok (.lcmp, 1) := by decide +kernel
theorem dX2_holds_17 : decode cX2_holds 17 = .ok (.ifCond .ge 7, 3) := by decide +kernel
theorem dX2_holds_20 : decode cX2_holds 20 = .ok (.iconst 1, 1) := by decide +kernel
theorem dX2_holds_21 : decode cX2_holds 21 = .ok (.goto 4, 3) := by decide +kernel
theorem dX2_holds_24 : decode cX2_holds 24 = .ok (.iconst 0, 1) := by decide +kernel
theorem dX2_holds_25 : decode cX2_holds 25 = .ok (.ireturn, 1) := by decide +kernel
theorem dX2_holds_26 : decode cX2_holds 26 = .ok (.aload_n 0, 1) := by decide +kernel
theorem dX2_holds_27 : decode cX2_holds 27 = .ok (.getfield 22, 3) := by decide +kernel
theorem dX2_holds_30 : decode cX2_holds 30 = .ok (.iload_n 1, 1) := by decide +kernel
theorem dX2_holds_31 : decode cX2_holds 31 = .ok (.iaload, 1) := by decide +kernel
theorem dX2_holds_32 : decode cX2_holds 32 = .ok (.ifCond .le 20, 3) := by decide +kernel
theorem dX2_holds_35 : decode cX2_holds 35 = .ok (.lload_n 2, 1) := by decide +kernel
theorem dX2_holds_36 : decode cX2_holds 36 = .ok (.aload_n 0, 1) := by decide +kernel
theorem dX2_holds_37 : decode cX2_holds 37 = .ok (.getfield 25, 3) := by decide +kernel
theorem dX2_holds_40 : decode cX2_holds 40 = .ok (.iload_n 1, 1) := by decide +kernel
theorem dX2_holds_41 : decode cX2_holds 41 = .ok (.laload, 1) := by decide +kernel
theorem dX2_holds_42 : decode cX2_holds 42 = .ok (.lcmp, 1) := by decide +kernel
theorem dX2_holds_43 : decode cX2_holds 43 = .ok (.ifCond .le 7, 3) := by decide +kernel
theorem dX2_holds_46 : decode cX2_holds 46 = .ok (.iconst 1, 1) := by decide +kernel
theorem dX2_holds_47 : decode cX2_holds 47 = .ok (.goto 4, 3) := by decide +kernel
theorem dX2_holds_50 : decode cX2_holds 50 = .ok (.iconst 0, 1) := by decide +kernel
theorem dX2_holds_51 : decode cX2_holds 51 = .ok (.ireturn, 1) := by decide +kernel
theorem dX2_holds_52 : decode cX2_holds 52 = .ok (.lload_n 2, 1) := by decide +kernel
theorem dX2_holds_53 : decode cX2_holds 53 = .ok (.aload_n 0, 1) := by decide +kernel
theorem dX2_holds_54 : decode cX2_holds 54 = .ok (.getfield 25, 3) := by decide +kernel
theorem dX2_holds_57 : decode cX2_holds 57 = .ok (.iload_n 1, 1) := by decide +kernel
theorem dX2_holds_58 : decode cX2_holds 58 = .ok (.laload, 1) := by decide +kernel
theorem dX2_holds_59 : decode cX2_holds 59 = .ok (.lcmp, 1) := by decide +kernel
theorem dX2_holds_60 : decode cX2_holds 60 = .ok (.ifCond .ne 7, 3) := by decide +kernel
theorem dX2_holds_63 : decode cX2_holds 63 = .ok (.iconst 1, 1) := by decide +kernel
theorem dX2_holds_64 : decode cX2_holds 64 = .ok (.goto 4, 3) := by decide +kernel
theorem dX2_holds_67 : decode cX2_holds 67 = .ok (.iconst 0, 1) := by decide +kernel
theorem dX2_holds_68 : decode cX2_holds 68 = .ok (.ireturn, 1) := by decide +kernel
end
section
theorem dX4_init_0 : decode cX4_init 0 = .ok (.aload_n 0, 1) := by decide +kernel
theorem dX4_init_1 : decode cX4_init 1 = .ok (.invokespecial 1, 3) := by decide +kernel
theorem dX4_init_4 : decode cX4_init 4 = .ok (.aload_n 0, 1) := by decide +kernel
theorem dX4_init_5 : decode cX4_init 5 = .ok (.sipush 2040, 3) := by decide +kernel
theorem dX4_init_8 : decode cX4_init 8 = .ok (.newarray .int, 2) := by decide +kernel
theorem dX4_init_10 : decode cX4_init 10 = .ok (.putfield 7, 3) := by decide +kernel
theorem dX4_init_13 : decode cX4_init 13 = .ok (.aload_n 0, 1) := by decide +kernel
theorem dX4_init_14 : decode cX4_init 14 = .ok (.sipush 2040, 3) := by decide +kernel
theorem dX4_init_17 : decode cX4_init 17 = .ok (.newarray .int, 2) := by decide +kernel
theorem dX4_init_19 : decode cX4_init 19 = .ok (.putfield 13, 3) := by decide +kernel
theorem dX4_init_22 : decode cX4_init 22 = .ok (.aload_n 0, 1) := by decide +kernel
theorem dX4_init_23 : decode cX4_init 23 = .ok (.sipush 2040, 3) := by decide +kernel
theorem dX4_init_26 : decode cX4_init 26 = .ok (.newarray .int, 2) := by decide +kernel
theorem dX4_init_28 : decode cX4_init 28 = .ok (.putfield 16, 3) := by decide +kernel
theorem dX4_init_31 : decode cX4_init 31 = .ok (.aload_n 0, 1) := by decide +kernel
theorem dX4_init_32 : decode cX4_init 32 = .ok (.sipush 2040, 3) := by decide +kernel
theorem dX4_init_35 : decode cX4_init 35 = .ok (.newarray .long, 2) := by decide +kernel
theorem dX4_init_37 : decode cX4_init 37 = .ok (.putfield 19, 3) := by decide +kernel
theorem dX4_init_40 : decode cX4_init 40 = .ok (.aload_n 0, 1) := by decide +kernel
theorem dX4_init_41 : decode cX4_init 41 = .ok (.sipush 2040, 3) := by decide +kernel
theorem dX4_init_44 : decode cX4_init 44 = .ok (.newarray .boolean, 2) := by decide +kernel
theorem dX4_init_46 : decode cX4_init 46 = .ok (.putfield 23, 3) := by decide +kernel
theorem dX4_init_49 : decode cX4_init 49 = .ok (.aload_n 0, 1) := by decide +kernel
theorem dX4_init_50 : decode cX4_init 50 = .ok (.bipush 20, 2) := by decide +kernel
theorem dX4_init_52 : decode cX4_init 52 = .ok (.newarray .int, 2) := by decide +kernel
theorem dX4_init_54 : decode cX4_init 54 = .ok (.putfield 27, 3) := by decide +kernel
theorem dX4_init_57 : decode cX4_init 57 = .ok (.aload_n 0, 1) := by decide +kernel
theorem dX4_init_58 : decode cX4_init 58 = .ok (.bipush 20, 2) := by decide +kernel
theorem dX4_init_60 : decode cX4_init 60 = .ok (.newarray .int, 2) := by decide +kernel
theorem dX4_init_62 : decode cX4_init 62 = .ok (.putfield 30, 3) := by decide +kernel
theorem dX4_init_65 : decode cX4_init 65 = .ok (.aload_n 0, 1) := by decide +kernel
theorem dX4_init_66 : decode cX4_init 66 = .ok (.bipush 20, 2) := by decide +kernel
theorem dX4_init_68 : decode cX4_init 68 = .ok (.newarray .int, 2) := by decide +kernel
theorem dX4_init_70 : decode cX4_init 70 = .ok (.putfield 33, 3) := by decide +kernel
theorem dX4_init_73 : decode cX4_init 73 = .ok (.aload_n 0, 1) := by decide +kernel
theorem dX4_init_74 : decode cX4_init 74 = .ok (.bipush 20, 2) := by decide +kernel
theorem dX4_init_76 : decode cX4_init 76 = .ok (.newarray .long, 2) := by decide +kernel
theorem dX4_init_78 : decode cX4_init 78 = .ok (.putfield 36, 3) := by decide +kernel
theorem dX4_init_81 : decode cX4_init 81 = .ok (.aload_n 0, 1) := by decide +kernel
theorem dX4_init_82 : decode cX4_init 82 = .ok (.bipush 40, 2) := by decide +kernel
theorem dX4_init_84 : decode cX4_init 84 = .ok (.newarray .int, 2) := by decide +kernel
theorem dX4_init_86 : decode cX4_init 86 = .ok (.putfield 39, 3) := by decide +kernel
theorem dX4_init_89 : decode cX4_init 89 = .ok (.aload_n 0, 1) := by decide +kernel
theorem dX4_init_90 : decode cX4_init 90 = .ok (.bipush 40, 2) := by decide +kernel
theorem dX4_init_92 : decode cX4_init 92 = .ok (.newarray .boolean, 2) := by decide +kernel
theorem dX4_init_94 : decode cX4_init 94 = .ok (.putfield 42, 3) := by decide +kernel
theorem dX4_init_97 : decode cX4_init 97 = .ok (.aload_n 0, 1) := by decide +kernel
theorem dX4_init_98 : decode cX4_init 98 = .ok (.bipush 40, 2) := by decide +kernel
theorem dX4_init_100 : decode cX4_init 100 = .ok (.newarray .long, 2) := by decide +kernel
theorem dX4_init_102 : decode cX4_init 102 = .ok (.putfield 45, 3) := by decide +kernel
theorem dX4_init_105 : decode cX4_init 105 = .ok (.aload_n 0, 1) := by decide +kernel
theorem dX4_init_106 : decode cX4_init 106 = .ok (.sipush 2000, 3) := by decide +kernel
theorem dX4_init_109 : decode cX4_init 109 = .ok (.newarray .int, 2) := by decide +kernel
theorem dX4_init_111 : decode cX4_init 111 = .ok (.putfield 48, 3) := by decide +kernel
theorem dX4_init_114 : decode cX4_init 114 = .ok (.return_, 1) := by decide +kernel
theorem dX4_thrown_0 : decode cX4_thrown 0 = .ok (.aload_n 0, 1) := by decide +kernel
theorem dX4_thrown_1 : decode cX4_thrown 1 = .ok (.getfield 51, 3) := by decide +kernel
theorem dX4_thrown_4 : decode cX4_thrown 4 = .ok (.ireturn, 1) := by decide +kernel
theorem dX4_no_0 : decode cX4_no 0 = .ok (.aload_n 0, 1) := by decide +kernel
theorem dX4_no_1 : decode cX4_no 1 = .ok (.iload_n 1, 1) := by decide +kernel
theorem dX4_no_2 : decode cX4_no 2 = .ok (.putfield 51, 3) := by decide +kernel
theorem dX4_no_5 : decode cX4_no 5 = .ok (.iconst 0, 1) := by decide +kernel
theorem dX4_no_6 : decode cX4_no 6 = .ok (.ireturn, 1) := by decide +kernel
theorem dX4_last_0 : decode cX4_last 0 = .ok (.iconst (-1), 1) := by decide +kernel
theorem dX4_last_1 : decode cX4_last 1 = .ok (.istore_n 3, 1) := by decide +kernel
theorem dX4_last_2 : decode cX4_last 2 = .ok (.iconst 0, 1) := by decide +kernel
theorem dX4_last_3 : decode cX4_last 3 = .ok (.istore 4, 2) := by decide +kernel
theorem dX4_last_5 : decode cX4_last 5 = .ok (.iload 4, 2) := by decide +kernel
theorem dX4_last_7 : decode cX4_last 7 = .ok (.aload_n 0, 1) := by decide +kernel
theorem dX4_last_8 : decode cX4_last 8 = .ok (.getfield 55, 3) := by decide +kernel
theorem dX4_last_11 : decode cX4_last 11 = .ok (.if_icmp .ge 34, 3) := by decide +kernel
theorem dX4_last_14 : decode cX4_last 14 = .ok (.aload_n 0, 1) := by decide +kernel
theorem dX4_last_15 : decode cX4_last 15 = .ok (.getfield 13, 3) := by decide +kernel
theorem dX4_last_18 : decode cX4_last 18 = .ok (.iload 4, 2) := by decide +kernel
theorem dX4_last_20 : decode cX4_last 20 = .ok (.iaload, 1) := by decide +kernel
theorem dX4_last_21 : decode cX4_last 21 = .ok (.iload_n 2, 1) := by decide +kernel
theorem dX4_last_22 : decode cX4_last 22 = .ok (.if_icmp .gt 23, 3) := by decide +kernel
theorem dX4_last_25 : decode cX4_last 25 = .ok (.aload_n 0, 1) := by decide +kernel
theorem dX4_last_26 : decode cX4_last 26 = .ok (.getfield 7, 3) := by decide +kernel
theorem dX4_last_29 : decode cX4_last 29 = .ok (.iload 4, 2) := by decide +kernel
theorem dX4_last_31 : decode cX4_last 31 = .ok (.iaload, 1) := by decide +kernel
theorem dX4_last_32 : decode cX4_last 32 = .ok (.iload_n 1, 1) := by decide +kernel
theorem dX4_last_33 : decode cX4_last 33 = .ok (.if_icmp .ne 6, 3) := by decide +kernel
theorem dX4_last_36 : decode cX4_last 36 = .ok (.iload 4, 2) := by decide +kernel
theorem dX4_last_38 : decode cX4_last 38 = .ok (.istore_n 3, 1) := by decide +kernel
theorem dX4_last_39 : decode cX4_last 39 = .ok (.iinc 4 1, 3) := by decide +kernel
theorem dX4_last_42 : decode cX4_last 42 = .ok (.goto (-37), 3) := by decide +kernel
theorem dX4_last_45 : decode cX4_last 45 = .ok (.iload_n 3, 1) := by decide +kernel
theorem dX4_last_46 : decode cX4_last 46 = .ok (.ireturn, 1) := by decide +kernel
theorem dX4_isThere_0 : decode cX4_isThere 0 = .ok (.aload_n 0, 1) := by decide +kernel
theorem dX4_isThere_1 : decode cX4_isThere 1 = .ok (.iload_n 1, 1) := by decide +kernel
theorem dX4_isThere_2 : decode cX4_isThere 2 = .ok (.iload_n 2, 1) := by decide +kernel
theorem dX4_isThere_3 : decode cX4_isThere 3 = .ok (.invokevirtual 58, 3) := by decide +kernel
theorem dX4_isThere_6 : decode cX4_isThere 6 = .ok (.istore_n 3, 1) := by decide +kernel
theorem dX4_isThere_7 : decode cX4_isThere 7 = .ok (.iload_n 3, 1) := by decide +kernel
theorem dX4_isThere_8 : decode cX4_isThere 8 = .ok (.ifCond .lt 16, 3) := by decide +kernel
theorem dX4_isThere_11 : decode cX4_isThere 11 = .ok (.aload_n 0, 1) := by decide +kernel
theorem dX4_isThere_12 : decode cX4_isThere 12 = .ok (.getfield 23, 3) := by decide +kernel
theorem dX4_isThere_15 : decode cX4_isThere 15 = .ok (.iload_n 3, 1) := by decide +kernel
theorem dX4_isThere_16 : decode cX4_isThere 16 = .ok (.baload, 1) := by decide +kernel
theorem dX4_isThere_17 : decode cX4_isThere 17 = .ok (.ifCond .eq 7, 3) := by decide +kernel
theorem dX4_isThere_20 : decode cX4_isThere 20 = .ok (.iconst 1, 1) := by decide +kernel
theorem dX4_isThere_21 : decode cX4_isThere 21 = .ok (.goto 4, 3) := by decide +kernel
theorem dX4_isThere_24 : decode cX4_isThere 24 = .ok (.iconst 0, 1) := by decide +kernel
theorem dX4_isThere_25 : decode cX4_isThere 25 = .ok (.ireturn, 1) := by decide +kernel
theorem dX4_add_0 : decode cX4_add 0 = .ok (.aload_n 0, 1) := by decide +kernel
theorem dX4_add_1 : decode cX4_add 1 = .ok (.iload_n 1, 1) := by decide +kernel
theorem dX4_add_2 : decode cX4_add 2 = .ok (.iload 5, 2) := by decide +kernel
theorem dX4_add_4 : decode cX4_add 4 = .ok (.invokevirtual 58, 3) := by decide +kernel
theorem dX4_add_7 : decode cX4_add 7 = .ok (.istore 6, 2) := by decide +kernel
theorem dX4_add_9 : decode cX4_add 9 = .ok (.iload 6, 2) := by decide +kernel
theorem dX4_add_11 : decode cX4_add 11 = .ok (.ifCond .lt 14, 3) := by decide +kernel
theorem dX4_add_14 : decode cX4_add 14 = .ok (.aload_n 0, 1) := by decide +kernel
theorem dX4_add_15 : decode cX4_add 15 = .ok (.getfield 16, 3) := by decide +kernel
theorem dX4_add_18 : decode cX4_add 18 = .ok (.iload 6, 2) := by decide +kernel
theorem dX4_add_20 : decode cX4_add 20 = .ok (.aload_n 0, 1) := by decide +kernel
theorem dX4_add_21 : decode cX4_add 21 = .ok (.getfield 55, 3) := by decide +kernel
theorem dX4_add_24 : decode cX4_add 24 = .ok (.iastore, 1) := by decide +kernel
theorem dX4_add_25 : decode cX4_add 25 = .ok (.aload_n 0, 1) := by decide +kernel
theorem dX4_add_26 : decode cX4_add 26 = .ok (.getfield 7, 3) := by decide +kernel
theorem dX4_add_29 : decode cX4_add 29 = .ok (.aload_n 0, 1) := by decide +kernel
theorem dX4_add_30 : decode cX4_add 30 = .ok (.getfield 55, 3) := by decide +kernel
theorem dX4_add_33 : decode cX4_add 33 = .ok (.iload_n 1, 1) := by decide +kernel
theorem dX4_add_34 : decode cX4_add 34 = .ok (.iastore, 1) := by decide +kernel
theorem dX4_add_35 : decode cX4_add 35 = .ok (.aload_n 0, 1) := by decide +kernel
theorem dX4_add_36 : decode cX4_add 36 = .ok (.getfield 23, 3) := by decide +kernel
theorem dX4_add_39 : decode cX4_add 39 = .ok (.aload_n 0, 1) := by decide +kernel
theorem dX4_add_40 : decode cX4_add 40 = .ok (.getfield 55, 3) := by decide +kernel
theorem dX4_add_43 : decode cX4_add 43 = .ok (.iload_n 2, 1) := by decide +kernel
theorem dX4_add_44 : decode cX4_add 44 = .ok (.bastore, 1) := by decide +kernel
theorem dX4_add_45 : decode cX4_add 45 = .ok (.aload_n 0, 1) := by decide +kernel
theorem dX4_add_46 : decode cX4_add 46 = .ok (.getfield 19, 3) := by decide +kernel
theorem dX4_add_49 : decode cX4_add 49 = .ok (.aload_n 0, 1) := by decide +kernel
theorem dX4_add_50 : decode cX4_add 50 = .ok (.getfield 55, 3) := by decide +kernel
theorem dX4_add_53 : decode cX4_add 53 = .ok (.lload_n 3, 1) := by decide +kernel
theorem dX4_add_54 : decode cX4_add 54 = .ok (.lastore, 1) := by decide +kernel
theorem dX4_add_55 : decode cX4_add 55 = .ok (.aload_n 0, 1) := by decide +kernel
theorem dX4_add_56 : decode cX4_add 56 = .ok (.getfield 13, 3) := by decide +kernel
theorem dX4_add_59 : decode cX4_add 59 = .ok (.aload_n 0, 1) := by decide +kernel
theorem dX4_add_60 : decode cX4_add 60 = .ok (.getfield 55, 3) := by decide +kernel
theorem dX4_add_63 : decode cX4_add 63 = .ok (.iload 5, 2) := by decide +kernel
theorem dX4_add_65 : decode cX4_add 65 = .ok (.iastore, 1) := by decide +kernel
theorem dX4_add_66 : decode cX4_add 66 = .ok (.aload_n 0, 1) := by decide +kernel
theorem dX4_add_67 : decode cX4_add 67 = .ok (.getfield 16, 3) := by decide +kernel
theorem dX4_add_70 : decode cX4_add 70 = .ok (.aload_n 0, 1) := by decide +kernel
theorem dX4_add_71 : decode cX4_add 71 = .ok (.getfield 55, 3) := by decide +kernel
theorem dX4_add_74 : decode cX4_add 74 = .ok (.iconst (-1), 1) := by decide +kernel
theorem dX4_add_75 : decode cX4_add 75 = .ok (.iastore, 1) := by decide +kernel
theorem dX4_add_76 : decode cX4_add 76 = .ok (.aload_n 0, 1) := by decide +kernel
theorem dX4_add_77 : decode cX4_add 77 = .ok (.dup, 1) := by decide +kernel
theorem dX4_add_78 : decode cX4_add 78 = .ok (.getfield 55, 3) := by decide +kernel
theorem dX4_add_81 : decode cX4_add 81 = .ok (.iconst 1, 1) := by decide +kernel
theorem dX4_add_82 : decode cX4_add 82 = .ok (.iadd, 1) := by decide +kernel
theorem dX4_add_83 : decode cX4_add 83 = .ok (.putfield 55, 3) := by decide +kernel
theorem dX4_add_86 : decode cX4_add 86 = .ok (.return_, 1) := by decide +kernel
theorem dX4_put_0 : decode cX4_put 0 = .ok (.aload_n 0, 1) := by decide +kernel
theorem dX4_put_1 : decode cX4_put 1 = .ok (.getfield 55, 3) := by decide +kernel
theorem dX4_put_4 : decode cX4_put 4 = .ok (.sipush 300, 3) := by decide +kernel
theorem dX4_put_7 : decode cX4_put 7 = .ok (.if_icmp .ne 9, 3) := by decide +kernel
theorem dX4_put_10 : decode cX4_put 10 = .ok (.aload_n 0, 1) := by decide +kernel
theorem dX4_put_11 : decode cX4_put 11 = .ok (.iconst 1, 1) := by decide +kernel
theorem dX4_put_12 : decode cX4_put 12 = .ok (.invokevirtual 62, 3) := by decide +kernel
theorem dX4_put_15 : decode cX4_put 15 = .ok (.ireturn, 1) := by decide +kernel
theorem dX4_put_16 : decode cX4_put 16 = .ok (.aload_n 0, 1) := by decide +kernel
theorem dX4_put_17 : decode cX4_put 17 = .ok (.iconst 0, 1) := by decide +kernel
theorem dX4_put_18 : decode cX4_put 18 = .ok (.putfield 51, 3) := by decide +kernel
theorem dX4_put_21 : decode cX4_put 21 = .ok (.aload_n 0, 1) := by decide +kernel
theorem dX4_put_22 : decode cX4_put 22 = .ok (.dup, 1) := by decide +kernel
theorem dX4_put_23 : decode cX4_put 23 = .ok (.getfield 66, 3) := by decide +kernel
theorem dX4_put_26 : decode cX4_put 26 = .ok (.iconst 1, 1) := by decide +kernel
theorem dX4_put_27 : decode cX4_put 27 = .ok (.iadd, 1) := by decide +kernel
theorem dX4_put_28 : decode cX4_put 28 = .ok (.putfield 66, 3) := by decide +kernel
theorem dX4_put_31 : decode cX4_put 31 = .ok (.aload_n 0, 1) := by decide +kernel
theorem dX4_put_32 : decode cX4_put 32 = .ok (.iload_n 1, 1) := by decide +kernel
theorem dX4_put_33 : decode cX4_put 33 = .ok (.iconst 1, 1) := by decide +kernel
theorem dX4_put_34 : decode cX4_put 34 = .ok (.lload_n 2, 1) := by decide +kernel
theorem dX4_put_35 : decode cX4_put 35 = .ok (.aload_n 0, 1) := by decide +kernel
theorem dX4_put_36 : decode cX4_put 36 = .ok (.getfield 66, 3) := by decide +kernel
theorem dX4_put_39 : decode cX4_put 39 = .ok (.invokevirtual 69, 3) := by decide +kernel
theorem dX4_put_42 : decode cX4_put 42 = .ok (.aload_n 0, 1) := by decide +kernel
theorem dX4_put_43 : decode cX4_put 43 = .ok (.getfield 66, 3) := by decide +kernel
theorem dX4_put_46 : decode cX4_put 46 = .ok (.ireturn, 1) := by decide +kernel
theorem dX4_remove_0 : decode cX4_remove 0 = .ok (.aload_n 0, 1) := by decide +kernel
theorem dX4_remove_1 : decode cX4_remove 1 = .ok (.iconst 0, 1) := by decide +kernel
theorem dX4_remove_2 : decode cX4_remove 2 = .ok (.putfield 51, 3) := by decide +kernel
theorem dX4_remove_5 : decode cX4_remove 5 = .ok (.aload_n 0, 1) := by decide +kernel
theorem dX4_remove_6 : decode cX4_remove 6 = .ok (.iload_n 1, 1) := by decide +kernel
theorem dX4_remove_7 : decode cX4_remove 7 = .ok (.aload_n 0, 1) := by decide +kernel
theorem dX4_remove_8 : decode cX4_remove 8 = .ok (.getfield 66, 3) := by decide +kernel
theorem dX4_remove_11 : decode cX4_remove 11 = .ok (.invokevirtual 73, 3) := by decide +kernel
theorem dX4_remove_14 : decode cX4_remove 14 = .ok (.ifCond .ne 5, 3) := by decide +kernel
theorem dX4_remove_17 : decode cX4_remove 17 = .ok (.iconst 0, 1) := by decide +kernel
theorem dX4_remove_18 : decode cX4_remove 18 = .ok (.ireturn, 1) := by decide +kernel
theorem dX4_remove_19 : decode cX4_remove 19 = .ok (.aload_n 0, 1) := by decide +kernel
theorem dX4_remove_20 : decode cX4_remove 20 = .ok (.getfield 55, 3) := by decide +kernel
theorem dX4_remove_23 : decode cX4_remove 23 = .ok (.sipush 300, 3) := by decide +kernel
theorem dX4_remove_26 : decode cX4_remove 26 = .ok (.if_icmp .ne 9, 3) := by decide +kernel
theorem dX4_remove_29 : decode cX4_remove 29 = .ok (.aload_n 0, 1) := by decide +kernel
theorem dX4_remove_30 : decode cX4_remove 30 = .ok (.iconst 1, 1) := by decide +kernel
theorem dX4_remove_31 : decode cX4_remove 31 = .ok (.invokevirtual 62, 3) := by decide +kernel
theorem dX4_remove_34 : decode cX4_remove 34 = .ok (.ireturn, 1) := by decide +kernel
theorem dX4_remove_35 : decode cX4_remove 35 = .ok (.aload_n 0, 1) := by decide +kernel
theorem dX4_remove_36 : decode cX4_remove 36 = .ok (.dup, 1) := by decide +kernel
theorem dX4_remove_37 : decode cX4_remove 37 = .ok (.getfield 66, 3) := by decide +kernel
theorem dX4_remove_40 : decode cX4_remove 40 = .ok (.iconst 1, 1) := by decide +kernel
theorem dX4_remove_41 : decode cX4_remove 41 = .ok (.iadd, 1) := by decide +kernel
theorem dX4_remove_42 : decode cX4_remove 42 = .ok (.putfield 66, 3) := by decide +kernel
theorem dX4_remove_45 : decode cX4_remove 45 = .ok (.aload_n 0, 1) := by decide +kernel
theorem dX4_remove_46 : decode cX4_remove 46 = .ok (.iload_n 1, 1) := by decide +kernel
theorem dX4_remove_47 : decode cX4_remove 47 = .ok (.iconst 0, 1) := by decide +kernel
theorem dX4_remove_48 : decode cX4_remove 48 = .ok (.lconst 0, 1) := by decide +kernel
theorem dX4_remove_49 : decode cX4_remove 49 = .ok (.aload_n 0, 1) := by decide +kernel
theorem dX4_remove_50 : decode cX4_remove 50 = .ok (.getfield 66, 3) := by decide +kernel
theorem dX4_remove_53 : decode cX4_remove 53 = .ok (.invokevirtual 69, 3) := by decide +kernel
theorem dX4_remove_56 : decode cX4_remove 56 = .ok (.aload_n 0, 1) := by decide +kernel
theorem dX4_remove_57 : decode cX4_remove 57 = .ok (.getfield 66, 3) := by decide +kernel
theorem dX4_remove_60 : decode cX4_remove 60 = .ok (.ireturn, 1) := by decide +kernel
theorem dX4_test_0 : decode cX4_test 0 = .ok (.aload_n 0, 1) := by decide +kernel
theorem dX4_test_1 : decode cX4_test 1 = .ok (.iload_n 2, 1) := by decide +kernel
theorem dX4_test_2 : decode cX4_test 2 = .ok (.ifCond .lt 18, 3) := by decide +kernel
theorem dX4_test_5 : decode cX4_test 5 = .ok (.iload_n 2, 1) := by decide +kernel
theorem dX4_test_6 : decode cX4_test 6 = .ok (.iconst 3, 1) := by decide +kernel
theorem dX4_test_7 : decode cX4_test 7 = .ok (.if_icmp .gt 13, 3) := by decide +kernel
theorem dX4_test_10 : decode cX4_test 10 = .ok (.iload_n 3, 1) := by decide +kernel
theorem dX4_test_11 : decode cX4_test 11 = .ok (.iconst (-1), 1) := by decide +kernel
theorem dX4_test_12 : decode cX4_test 12 = .ok (.if_icmp .lt 8, 3) := by decide +kernel
theorem dX4_test_15 : decode cX4_test 15 = .ok (.iload_n 3, 1) := by decide +kernel
theorem dX4_test_16 : decode cX4_test 16 = .ok (.iconst 1, 1) := by decide +kernel
theorem dX4_test_17 : decode cX4_test 17 = .ok (.if_icmp .le 7, 3) := by decide +kernel
theorem dX4_test_20 : decode cX4_test 20 = .ok (.iconst 1, 1) := by decide +kernel
theorem dX4_test_21 : decode cX4_test 21 = .ok (.goto 17, 3) := by decide +kernel
theorem dX4_test_24 : decode cX4_test 24 = .ok (.aload_n 0, 1) := by decide +kernel
theorem dX4_test_25 : decode cX4_test 25 = .ok (.getfield 77, 3) := by decide +kernel
theorem dX4_test_28 : decode cX4_test 28 = .ok (.bipush 20, 2) := by decide +kernel
theorem dX4_test_30 : decode cX4_test 30 = .ok (.if_icmp .ne 7, 3) := by decide +kernel
theorem dX4_test_33 : decode cX4_test 33 = .ok (.iconst 2, 1) := by decide +kernel
theorem dX4_test_34 : decode cX4_test 34 = .ok (.goto 4, 3) := by decide +kernel
theorem dX4_test_37 : decode cX4_test 37 = .ok (.iconst 0, 1) := by decide +kernel
theorem dX4_test_38 : decode cX4_test 38 = .ok (.putfield 51, 3) := by decide +kernel
theorem dX4_test_41 : decode cX4_test 41 = .ok (.aload_n 0, 1) := by decide +kernel
theorem dX4_test_42 : decode cX4_test 42 = .ok (.getfield 51, 3) := by decide +kernel
theorem dX4_test_45 : decode cX4_test 45 = .ok (.ifCond .eq 4, 3) := by decide +kernel
theorem dX4_test_48 : decode cX4_test 48 = .ok (.return_, 1) := by decide +kernel
theorem dX4_test_49 : decode cX4_test 49 = .ok (.aload_n 0, 1) := by decide +kernel
theorem dX4_test_50 : decode cX4_test 50 = .ok (.getfield 27, 3) := by decide +kernel
theorem dX4_test_53 : decode cX4_test 53 = .ok (.aload_n 0, 1) := by decide +kernel
theorem dX4_test_54 : decode cX4_test 54 = .ok (.getfield 77, 3) := by decide +kernel
theorem dX4_test_57 : decode cX4_test 57 = .ok (.iload_n 1, 1) := by decide +kernel
theorem dX4_test_58 : decode cX4_test 58 = .ok (.iastore, 1) := by decide +kernel
theorem dX4_test_59 : decode cX4_test 59 = .ok (.aload_n 0, 1) := by decide +kernel
theorem dX4_test_60 : decode cX4_test 60 = .ok (.getfield 30, 3) := by decide +kernel
theorem dX4_test_63 : decode cX4_test 63 = .ok (.aload_n 0, 1) := by decide +kernel
theorem dX4_test_64 : decode cX4_test 64 = .ok (.getfield 77, 3) := by decide +kernel
theorem dX4_test_67 : decode cX4_test 67 = .ok (.iload_n 2, 1) := by decide +kernel
theorem dX4_test_68 : decode cX4_test 68 = .ok (.iastore, 1) := by decide +kernel
theorem dX4_test_69 : decode cX4_test 69 = .ok (.aload_n 0, 1) := by decide +kernel
theorem dX4_test_70 : decode cX4_test 70 = .ok (.getfield 33, 3) := by decide +kernel
theorem dX4_test_73 : decode cX4_test 73 = .ok (.aload_n 0, 1) := by decide +kernel
theorem dX4_test_74 : decode cX4_test 74 = .ok (.getfield 77, 3) := by decide +kernel
theorem dX4_test_77 : decode cX4_test 77 = .ok (.iload_n 3, 1) := by decide +kernel
theorem dX4_test_78 : decode cX4_test 78 = .ok (.iastore, 1) := by decide +kernel
theorem dX4_test_79 : decode cX4_test 79 = .ok (.aload_n 0, 1) := by decide +kernel
theorem dX4_test_80 : decode cX4_test 80 = .ok (.getfield 36, 3) := by decide +kernel
theorem dX4_test_83 : decode cX4_test 83 = .ok (.aload_n 0, 1) := by decide +kernel
theorem dX4_test_84 : decode cX4_test 84 = .ok (.getfield 77, 3) := by decide +kernel
theorem dX4_test_87 : decode cX4_test 87 = .ok (.lload 4, 2) := by decide +kernel
theorem dX4_test_89 : decode cX4_test 89 = .ok (.lastore, 1) := by decide +kernel
theorem dX4_test_90 : decode cX4_test 90 = .ok (.aload_n 0, 1) := by decide +kernel
theorem dX4_test_91 : decode cX4_test 91 = .ok (.dup, 1) := by decide +kernel
theorem dX4_test_92 : decode cX4_test 92 = .ok (.getfield 77, 3) := by decide +kernel
theorem dX4_test_95 : decode cX4_test 95 = .ok (.iconst 1, 1) := by decide +kernel
theorem dX4_test_96 : decode cX4_test 96 = .ok (.iadd, 1) := by decide +kernel
theorem dX4_test_97 : decode cX4_test 97 = .ok (.putfield 77, 3) := by decide +kernel
theorem dX4_test_100 : decode cX4_test 100 = .ok (.return_, 1) := by decide +kernel
theorem dX4_step_0 : decode cX4_step 0 = .ok (.aload_n 0, 1) := by decide +kernel
theorem dX4_step_1 : decode cX4_step 1 = .ok (.iload_n 1, 1) := by decide +kernel
theorem dX4_step_2 : decode cX4_step 2 = .ok (.ifCond .eq 10, 3) := by decide +kernel
theorem dX4_step_5 : decode cX4_step 5 = .ok (.aload_n 0, 1) := by decide +kernel
theorem dX4_step_6 : decode cX4_step 6 = .ok (.getfield 80, 3) := by decide +kernel
theorem dX4_step_9 : decode cX4_step 9 = .ok (.goto 7, 3) := by decide +kernel
theorem dX4_step_12 : decode cX4_step 12 = .ok (.aload_n 0, 1) := by decide +kernel
theorem dX4_step_13 : decode cX4_step 13 = .ok (.getfield 83, 3) := by decide +kernel
theorem dX4_step_16 : decode cX4_step 16 = .ok (.bipush 20, 2) := by decide +kernel
theorem dX4_step_18 : decode cX4_step 18 = .ok (.if_icmp .ne 7, 3) := by decide +kernel
theorem dX4_step_21 : decode cX4_step 21 = .ok (.iconst 1, 1) := by decide +kernel
theorem dX4_step_22 : decode cX4_step 22 = .ok (.goto 4, 3) := by decide +kernel
theorem dX4_step_25 : decode cX4_step 25 = .ok (.iconst 0, 1) := by decide +kernel
theorem dX4_step_26 : decode cX4_step 26 = .ok (.putfield 51, 3) := by decide +kernel
theorem dX4_step_29 : decode cX4_step 29 = .ok (.aload_n 0, 1) := by decide +kernel
theorem dX4_step_30 : decode cX4_step 30 = .ok (.getfield 51, 3) := by decide +kernel
theorem dX4_step_33 : decode cX4_step 33 = .ok (.ifCond .eq 4, 3) := by decide +kernel
theorem dX4_step_36 : decode cX4_step 36 = .ok (.return_, 1) := by decide +kernel
theorem dX4_step_37 : decode cX4_step 37 = .ok (.iload_n 1, 1) := by decide +kernel
theorem dX4_step_38 : decode cX4_step 38 = .ok (.ifCond .eq 10, 3) := by decide +kernel
theorem dX4_step_41 : decode cX4_step 41 = .ok (.aload_n 0, 1) := by decide +kernel
theorem dX4_step_42 : decode cX4_step 42 = .ok (.getfield 80, 3) := by decide +kernel
theorem dX4_step_45 : decode cX4_step 45 = .ok (.goto 10, 3) := by decide +kernel
theorem dX4_step_48 : decode cX4_step 48 = .ok (.bipush 20, 2) := by decide +kernel
theorem dX4_step_50 : decode cX4_step 50 = .ok (.aload_n 0, 1) := by decide +kernel
theorem dX4_step_51 : decode cX4_step 51 = .ok (.getfield 83, 3) := by decide +kernel
theorem dX4_step_54 : decode cX4_step 54 = .ok (.iadd, 1) := by decide +kernel
theorem dX4_step_55 : decode cX4_step 55 = .ok (.istore 6, 2) := by decide +kernel
theorem dX4_step_57 : decode cX4_step 57 = .ok (.aload_n 0, 1) := by decide +kernel
theorem dX4_step_58 : decode cX4_step 58 = .ok (.getfield 39, 3) := by decide +kernel
theorem dX4_step_61 : decode cX4_step 61 = .ok (.iload 6, 2) := by decide +kernel
theorem dX4_step_63 : decode cX4_step 63 = .ok (.iload_n 2, 1) := by decide +kernel
theorem dX4_step_64 : decode cX4_step 64 = .ok (.iastore, 1) := by decide +kernel
theorem dX4_step_65 : decode cX4_step 65 = .ok (.aload_n 0, 1) := by decide +kernel
theorem dX4_step_66 : decode cX4_step 66 = .ok (.getfield 42, 3) := by decide +kernel
theorem dX4_step_69 : decode cX4_step 69 = .ok (.iload 6, 2) := by decide +kernel
theorem dX4_step_71 : decode cX4_step 71 = .ok (.iload_n 3, 1) := by decide +kernel
theorem dX4_step_72 : decode cX4_step 72 = .ok (.bastore, 1) := by decide +kernel
theorem dX4_step_73 : decode cX4_step 73 = .ok (.aload_n 0, 1) := by decide +kernel
theorem dX4_step_74 : decode cX4_step 74 = .ok (.getfield 45, 3) := by decide +kernel
theorem dX4_step_77 : decode cX4_step 77 = .ok (.iload 6, 2) := by decide +kernel
theorem dX4_step_79 : decode cX4_step 79 = .ok (.lload 4, 2) := by decide +kernel
theorem dX4_step_81 : decode cX4_step 81 = .ok (.lastore, 1) := by decide +kernel
theorem dX4_step_82 : decode cX4_step 82 = .ok (.iload_n 1, 1) := by decide +kernel
theorem dX4_step_83 : decode cX4_step 83 = .ok (.ifCond .eq 16, 3) := by decide +kernel
theorem dX4_step_86 : decode cX4_step 86 = .ok (.aload_n 0, 1) := by decide +kernel
theorem dX4_step_87 : decode cX4_step 87 = .ok (.dup, 1) := by decide +kernel
theorem dX4_step_88 : decode cX4_step 88 = .ok (.getfield 80, 3) := by decide +kernel
theorem dX4_step_91 : decode cX4_step 91 = .ok (.iconst 1, 1) := by decide +kernel
theorem dX4_step_92 : decode cX4_step 92 = .ok (.iadd, 1) := by decide +kernel
theorem dX4_step_93 : decode cX4_step 93 = .ok (.putfield 80, 3) := by decide +kernel
theorem dX4_step_96 : decode cX4_step 96 = .ok (.goto 13, 3) := by decide +kernel
theorem dX4_step_99 : decode cX4_step 99 = .ok (.aload_n 0, 1) := by decide +kernel
theorem dX4_step_100 : decode cX4_step 100 = .ok (.dup, 1) := by decide +kernel
theorem dX4_step_101 : decode cX4_step 101 = .ok (.getfield 83, 3) := by decide +kernel
theorem dX4_step_104 : decode cX4_step 104 = .ok (.iconst 1, 1) := by decide +kernel
theorem dX4_step_105 : decode cX4_step 105 = .ok (.iadd, 1) := by decide +kernel
theorem dX4_step_106 : decode cX4_step 106 = .ok (.putfield 83, 3) := by decide +kernel
theorem dX4_step_109 : decode cX4_step 109 = .ok (.return_, 1) := by decide +kernel
theorem dX4_told_0 : decode cX4_told 0 = .ok (.iconst 0, 1) := by decide +kernel
theorem dX4_told_1 : decode cX4_told 1 = .ok (.istore 4, 2) := by decide +kernel
theorem dX4_told_3 : decode cX4_told 3 = .ok (.iconst 0, 1) := by decide +kernel
theorem dX4_told_4 : decode cX4_told 4 = .ok (.istore 5, 2) := by decide +kernel
theorem dX4_told_6 : decode cX4_told 6 = .ok (.iconst 0, 1) := by decide +kernel
theorem dX4_told_7 : decode cX4_told 7 = .ok (.istore 6, 2) := by decide +kernel
theorem dX4_told_9 : decode cX4_told 9 = .ok (.lconst 0, 1) := by decide +kernel
theorem dX4_told_10 : decode cX4_told 10 = .ok (.lstore 7, 2) := by decide +kernel
theorem dX4_told_12 : decode cX4_told 12 = .ok (.iconst 0, 1) := by decide +kernel
theorem dX4_told_13 : decode cX4_told 13 = .ok (.istore 9, 2) := by decide +kernel
theorem dX4_told_15 : decode cX4_told 15 = .ok (.iload 9, 2) := by decide +kernel
theorem dX4_told_17 : decode cX4_told 17 = .ok (.aload_n 0, 1) := by decide +kernel
theorem dX4_told_18 : decode cX4_told 18 = .ok (.getfield 55, 3) := by decide +kernel
theorem dX4_told_21 : decode cX4_told 21 = .ok (.if_icmp .ge 85, 3) := by decide +kernel
theorem dX4_told_24 : decode cX4_told 24 = .ok (.aload_n 0, 1) := by decide +kernel
theorem dX4_told_25 : decode cX4_told 25 = .ok (.getfield 13, 3) := by decide +kernel
theorem dX4_told_28 : decode cX4_told 28 = .ok (.iload 9, 2) := by decide +kernel
theorem dX4_told_30 : decode cX4_told 30 = .ok (.iaload, 1) := by decide +kernel
theorem dX4_told_31 : decode cX4_told 31 = .ok (.iload_n 2, 1) := by decide +kernel
theorem dX4_told_32 : decode cX4_told 32 = .ok (.if_icmp .gt 74, 3) := by decide +kernel
theorem dX4_told_35 : decode cX4_told 35 = .ok (.aload_n 0, 1) := by decide +kernel
theorem dX4_told_36 : decode cX4_told 36 = .ok (.getfield 7, 3) := by decide +kernel
theorem dX4_told_39 : decode cX4_told 39 = .ok (.iload 9, 2) := by decide +kernel
theorem dX4_told_41 : decode cX4_told 41 = .ok (.iaload, 1) := by decide +kernel
theorem dX4_told_42 : decode cX4_told 42 = .ok (.iload_n 1, 1) := by decide +kernel
theorem dX4_told_43 : decode cX4_told 43 = .ok (.if_icmp .eq 6, 3) := by decide +kernel
theorem dX4_told_46 : decode cX4_told 46 = .ok (.goto 54, 3) := by decide +kernel
theorem dX4_told_49 : decode cX4_told 49 = .ok (.aload_n 0, 1) := by decide +kernel
theorem dX4_told_50 : decode cX4_told 50 = .ok (.getfield 23, 3) := by decide +kernel
theorem dX4_told_53 : decode cX4_told 53 = .ok (.iload 9, 2) := by decide +kernel
theorem dX4_told_55 : decode cX4_told 55 = .ok (.baload, 1) := by decide +kernel
theorem dX4_told_56 : decode cX4_told 56 = .ok (.ifCond .ne 9, 3) := by decide +kernel
theorem dX4_told_59 : decode cX4_told 59 = .ok (.iconst 0, 1) := by decide +kernel
theorem dX4_told_60 : decode cX4_told 60 = .ok (.istore 4, 2) := by decide +kernel
theorem dX4_told_62 : decode cX4_told 62 = .ok (.goto 38, 3) := by decide +kernel
theorem dX4_told_65 : decode cX4_told 65 = .ok (.iload 4, 2) := by decide +kernel
theorem dX4_told_67 : decode cX4_told 67 = .ok (.ifCond .ne 12, 3) := by decide +kernel
theorem dX4_told_70 : decode cX4_told 70 = .ok (.aload_n 0, 1) := by decide +kernel
theorem dX4_told_71 : decode cX4_told 71 = .ok (.getfield 13, 3) := by decide +kernel
theorem dX4_told_74 : decode cX4_told 74 = .ok (.iload 9, 2) := by decide +kernel
theorem dX4_told_76 : decode cX4_told 76 = .ok (.iaload, 1) := by decide +kernel
theorem dX4_told_77 : decode cX4_told 77 = .ok (.istore 5, 2) := by decide +kernel
theorem dX4_told_79 : decode cX4_told 79 = .ok (.iinc 4 1, 3) := by decide +kernel
theorem dX4_told_82 : decode cX4_told 82 = .ok (.aload_n 0, 1) := by decide +kernel
theorem dX4_told_83 : decode cX4_told 83 = .ok (.getfield 13, 3) := by decide +kernel
theorem dX4_told_86 : decode cX4_told 86 = .ok (.iload 9, 2) := by decide +kernel
theorem dX4_told_88 : decode cX4_told 88 = .ok (.iaload, 1) := by decide +kernel
theorem dX4_told_89 : decode cX4_told 89 = .ok (.istore 6, 2) := by decide +kernel
theorem dX4_told_91 : decode cX4_told 91 = .ok (.aload_n 0, 1) := by decide +kernel
theorem dX4_told_92 : decode cX4_told 92 = .ok (.getfield 19, 3) := by decide +kernel
theorem dX4_told_95 : decode cX4_told 95 = .ok (.iload 9, 2) := by decide +kernel
theorem dX4_told_97 : decode cX4_told 97 = .ok (.laload, 1) := by decide +kernel
theorem dX4_told_98 : decode cX4_told 98 = .ok (.lstore 7, 2) := by decide +kernel
theorem dX4_told_100 : decode cX4_told 100 = .ok (.iinc 9 1, 3) := by decide +kernel
theorem dX4_told_103 : decode cX4_told 103 = .ok (.goto (-88), 3) := by decide +kernel
theorem dX4_told_106 : decode cX4_told 106 = .ok (.iload 4, 2) := by decide +kernel
theorem dX4_told_108 : decode cX4_told 108 = .ok (.ifCond .ne 5, 3) := by decide +kernel
theorem dX4_told_111 : decode cX4_told 111 = .ok (.lconst 0, 1) := by decide +kernel
theorem dX4_told_112 : decode cX4_told 112 = .ok (.lreturn, 1) := by decide +kernel
theorem dX4_told_113 : decode cX4_told 113 = .ok (.iload_n 3, 1) := by decide +kernel
theorem dX4_told_114 : decode cX4_told 114 = .ok (.ifCond .ne 8, 3) := by decide +kernel
theorem dX4_told_117 : decode cX4_told 117 = .ok (.lload 7, 2) := by decide +kernel
theorem dX4_told_119 : decode cX4_told 119 = .ok (.goto 28, 3) := by decide +kernel
theorem dX4_told_122 : decode cX4_told 122 = .ok (.iload_n 3, 1) := by decide +kernel
theorem dX4_told_123 : decode cX4_told 123 = .ok (.iconst 1, 1) := by decide +kernel
theorem dX4_told_124 : decode cX4_told 124 = .ok (.if_icmp .ne 9, 3) := by decide +kernel
theorem dX4_told_127 : decode cX4_told 127 = .ok (.iload 4, 2) := by decide +kernel
theorem dX4_told_129 : decode cX4_told 129 = .ok (.i2l, 1) := by decide +kernel
theorem dX4_told_130 : decode cX4_told 130 = .ok (.goto 17, 3) := by decide +kernel
theorem dX4_told_133 : decode cX4_told 133 = .ok (.iload_n 3, 1) := by decide +kernel
theorem dX4_told_134 : decode cX4_told 134 = .ok (.iconst 2, 1) := by decide +kernel
theorem dX4_told_135 : decode cX4_told 135 = .ok (.if_icmp .ne 9, 3) := by decide +kernel
theorem dX4_told_138 : decode cX4_told 138 = .ok (.iload 5, 2) := by decide +kernel
theorem dX4_told_140 : decode cX4_told 140 = .ok (.i2l, 1) := by decide +kernel
theorem dX4_told_141 : decode cX4_told 141 = .ok (.goto 6, 3) := by decide +kernel
theorem dX4_told_144 : decode cX4_told 144 = .ok (.iload 6, 2) := by decide +kernel
theorem dX4_told_146 : decode cX4_told 146 = .ok (.i2l, 1) := by decide +kernel
theorem dX4_told_147 : decode cX4_told 147 = .ok (.lreturn, 1) := by decide +kernel
theorem dX4_deal_0 : decode cX4_deal 0 = .ok (.iconst 1, 1) := by decide +kernel
theorem dX4_deal_1 : decode cX4_deal 1 = .ok (.istore_n 1, 1) := by decide +kernel
theorem dX4_deal_2 : decode cX4_deal 2 = .ok (.iconst 0, 1) := by decide +kernel
theorem dX4_deal_3 : decode cX4_deal 3 = .ok (.istore_n 2, 1) := by decide +kernel
theorem dX4_deal_4 : decode cX4_deal 4 = .ok (.iload_n 2, 1) := by decide +kernel
theorem dX4_deal_5 : decode cX4_deal 5 = .ok (.aload_n 0, 1) := by decide +kernel
theorem dX4_deal_6 : decode cX4_deal 6 = .ok (.getfield 77, 3) := by decide +kernel
theorem dX4_deal_9 : decode cX4_deal 9 = .ok (.if_icmp .ge 76, 3) := by decide +kernel
theorem dX4_deal_12 : decode cX4_deal 12 = .ok (.aload_n 0, 1) := by decide +kernel
theorem dX4_deal_13 : decode cX4_deal 13 = .ok (.aload_n 0, 1) := by decide +kernel
theorem dX4_deal_14 : decode cX4_deal 14 = .ok (.getfield 27, 3) := by decide +kernel
theorem dX4_deal_17 : decode cX4_deal 17 = .ok (.iload_n 2, 1) := by decide +kernel
theorem dX4_deal_18 : decode cX4_deal 18 = .ok (.iaload, 1) := by decide +kernel
theorem dX4_deal_19 : decode cX4_deal 19 = .ok (.aload_n 0, 1) := by decide +kernel
theorem dX4_deal_20 : decode cX4_deal 20 = .ok (.getfield 66, 3) := by decide +kernel
theorem dX4_deal_23 : decode cX4_deal 23 = .ok (.aload_n 0, 1) := by decide +kernel
theorem dX4_deal_24 : decode cX4_deal 24 = .ok (.getfield 30, 3) := by decide +kernel
theorem dX4_deal_27 : decode cX4_deal 27 = .ok (.iload_n 2, 1) := by decide +kernel
theorem dX4_deal_28 : decode cX4_deal 28 = .ok (.iaload, 1) := by decide +kernel
theorem dX4_deal_29 : decode cX4_deal 29 = .ok (.invokevirtual 86, 3) := by decide +kernel
theorem dX4_deal_32 : decode cX4_deal 32 = .ok (.lstore_n 3, 1) := by decide +kernel
theorem dX4_deal_33 : decode cX4_deal 33 = .ok (.lload_n 3, 1) := by decide +kernel
theorem dX4_deal_34 : decode cX4_deal 34 = .ok (.aload_n 0, 1) := by decide +kernel
theorem dX4_deal_35 : decode cX4_deal 35 = .ok (.getfield 36, 3) := by decide +kernel
theorem dX4_deal_38 : decode cX4_deal 38 = .ok (.iload_n 2, 1) := by decide +kernel
theorem dX4_deal_39 : decode cX4_deal 39 = .ok (.laload, 1) := by decide +kernel
theorem dX4_deal_40 : decode cX4_deal 40 = .ok (.lcmp, 1) := by decide +kernel
theorem dX4_deal_41 : decode cX4_deal 41 = .ok (.ifCond .ge 7, 3) := by decide +kernel
theorem dX4_deal_44 : decode cX4_deal 44 = .ok (.iconst (-1), 1) := by decide +kernel
theorem dX4_deal_45 : decode cX4_deal 45 = .ok (.goto 19, 3) := by decide +kernel
theorem dX4_deal_48 : decode cX4_deal 48 = .ok (.lload_n 3, 1) := by decide +kernel
theorem dX4_deal_49 : decode cX4_deal 49 = .ok (.aload_n 0, 1) := by decide +kernel
theorem dX4_deal_50 : decode cX4_deal 50 = .ok (.getfield 36, 3) := by decide +kernel
theorem dX4_deal_53 : decode cX4_deal 53 = .ok (.iload_n 2, 1) := by decide +kernel
theorem dX4_deal_54 : decode cX4_deal 54 = .ok (.laload, 1) := by decide +kernel
theorem dX4_deal_55 : decode cX4_deal 55 = .ok (.lcmp, 1) := by decide +kernel
theorem dX4_deal_56 : decode cX4_deal 56 = .ok (.ifCond .ne 7, 3) := by decide +kernel
theorem dX4_deal_59 : decode cX4_deal 59 = .ok (.iconst 0, 1) := by decide +kernel
theorem dX4_deal_60 : decode cX4_deal 60 = .ok (.goto 4, 3) := by decide +kernel
theorem dX4_deal_63 : decode cX4_deal 63 = .ok (.iconst 1, 1) := by decide +kernel
theorem dX4_deal_64 : decode cX4_deal 64 = .ok (.istore 5, 2) := by decide +kernel
theorem dX4_deal_66 : decode cX4_deal 66 = .ok (.iload 5, 2) := by decide +kernel
theorem dX4_deal_68 : decode cX4_deal 68 = .ok (.aload_n 0, 1) := by decide +kernel
theorem dX4_deal_69 : decode cX4_deal 69 = .ok (.getfield 33, 3) := by decide +kernel
theorem dX4_deal_72 : decode cX4_deal 72 = .ok (.iload_n 2, 1) := by decide +kernel
theorem dX4_deal_73 : decode cX4_deal 73 = .ok (.iaload, 1) := by decide +kernel
theorem dX4_deal_74 : decode cX4_deal 74 = .ok (.if_icmp .eq 5, 3) := by decide +kernel
theorem dX4_deal_77 : decode cX4_deal 77 = .ok (.iconst 0, 1) := by decide +kernel
theorem dX4_deal_78 : decode cX4_deal 78 = .ok (.istore_n 1, 1) := by decide +kernel
theorem dX4_deal_79 : decode cX4_deal 79 = .ok (.iinc 2 1, 3) := by decide +kernel
theorem dX4_deal_82 : decode cX4_deal 82 = .ok (.goto (-78), 3) := by decide +kernel
theorem dX4_deal_85 : decode cX4_deal 85 = .ok (.iload_n 1, 1) := by decide +kernel
theorem dX4_deal_86 : decode cX4_deal 86 = .ok (.ifCond .eq 7, 3) := by decide +kernel
theorem dX4_deal_89 : decode cX4_deal 89 = .ok (.iconst 0, 1) := by decide +kernel
theorem dX4_deal_90 : decode cX4_deal 90 = .ok (.goto 5, 3) := by decide +kernel
theorem dX4_deal_93 : decode cX4_deal 93 = .ok (.bipush 20, 2) := by decide +kernel
theorem dX4_deal_95 : decode cX4_deal 95 = .ok (.istore_n 2, 1) := by decide +kernel
theorem dX4_deal_96 : decode cX4_deal 96 = .ok (.iload_n 1, 1) := by decide +kernel
theorem dX4_deal_97 : decode cX4_deal 97 = .ok (.ifCond .eq 10, 3) := by decide +kernel
theorem dX4_deal_100 : decode cX4_deal 100 = .ok (.aload_n 0, 1) := by decide +kernel
theorem dX4_deal_101 : decode cX4_deal 101 = .ok (.getfield 80, 3) := by decide +kernel
theorem dX4_deal_104 : decode cX4_deal 104 = .ok (.goto 7, 3) := by decide +kernel
theorem dX4_deal_107 : decode cX4_deal 107 = .ok (.aload_n 0, 1) := by decide +kernel
theorem dX4_deal_108 : decode cX4_deal 108 = .ok (.getfield 83, 3) := by decide +kernel
theorem dX4_deal_111 : decode cX4_deal 111 = .ok (.istore_n 3, 1) := by decide +kernel
theorem dX4_deal_112 : decode cX4_deal 112 = .ok (.aload_n 0, 1) := by decide +kernel
theorem dX4_deal_113 : decode cX4_deal 113 = .ok (.getfield 55, 3) := by decide +kernel
theorem dX4_deal_116 : decode cX4_deal 116 = .ok (.istore 4, 2) := by decide +kernel
theorem dX4_deal_118 : decode cX4_deal 118 = .ok (.iload_n 2, 1) := by decide +kernel
theorem dX4_deal_119 : decode cX4_deal 119 = .ok (.istore 5, 2) := by decide +kernel
theorem dX4_deal_121 : decode cX4_deal 121 = .ok (.iload 5, 2) := by decide +kernel
theorem dX4_deal_123 : decode cX4_deal 123 = .ok (.iload_n 2, 1) := by decide +kernel
theorem dX4_deal_124 : decode cX4_deal 124 = .ok (.iload_n 3, 1) := by decide +kernel
theorem dX4_deal_125 : decode cX4_deal 125 = .ok (.iadd, 1) := by decide +kernel
theorem dX4_deal_126 : decode cX4_deal 126 = .ok (.if_icmp .ge 70, 3) := by decide +kernel
theorem dX4_deal_129 : decode cX4_deal 129 = .ok (.aload_n 0, 1) := by decide +kernel
theorem dX4_deal_130 : decode cX4_deal 130 = .ok (.getfield 42, 3) := by decide +kernel
theorem dX4_deal_133 : decode cX4_deal 133 = .ok (.iload 5, 2) := by decide +kernel
theorem dX4_deal_135 : decode cX4_deal 135 = .ok (.baload, 1) := by decide +kernel
theorem dX4_deal_136 : decode cX4_deal 136 = .ok (.ifCond .ne 23, 3) := by decide +kernel
theorem dX4_deal_139 : decode cX4_deal 139 = .ok (.aload_n 0, 1) := by decide +kernel
theorem dX4_deal_140 : decode cX4_deal 140 = .ok (.aload_n 0, 1) := by decide +kernel
theorem dX4_deal_141 : decode cX4_deal 141 = .ok (.getfield 39, 3) := by decide +kernel
theorem dX4_deal_144 : decode cX4_deal 144 = .ok (.iload 5, 2) := by decide +kernel
theorem dX4_deal_146 : decode cX4_deal 146 = .ok (.iaload, 1) := by decide +kernel
theorem dX4_deal_147 : decode cX4_deal 147 = .ok (.aload_n 0, 1) := by decide +kernel
theorem dX4_deal_148 : decode cX4_deal 148 = .ok (.getfield 66, 3) := by decide +kernel
theorem dX4_deal_151 : decode cX4_deal 151 = .ok (.iconst 1, 1) := by decide +kernel
theorem dX4_deal_152 : decode cX4_deal 152 = .ok (.iadd, 1) := by decide +kernel
theorem dX4_deal_153 : decode cX4_deal 153 = .ok (.invokevirtual 73, 3) := by decide +kernel
theorem dX4_deal_156 : decode cX4_deal 156 = .ok (.ifCond .eq 34, 3) := by decide +kernel
theorem dX4_deal_159 : decode cX4_deal 159 = .ok (.aload_n 0, 1) := by decide +kernel
theorem dX4_deal_160 : decode cX4_deal 160 = .ok (.aload_n 0, 1) := by decide +kernel
theorem dX4_deal_161 : decode cX4_deal 161 = .ok (.getfield 39, 3) := by decide +kernel
theorem dX4_deal_164 : decode cX4_deal 164 = .ok (.iload 5, 2) := by decide +kernel
theorem dX4_deal_166 : decode cX4_deal 166 = .ok (.iaload, 1) := by decide +kernel
theorem dX4_deal_167 : decode cX4_deal 167 = .ok (.aload_n 0, 1) := by decide +kernel
theorem dX4_deal_168 : decode cX4_deal 168 = .ok (.getfield 42, 3) := by decide +kernel
theorem dX4_deal_171 : decode cX4_deal 171 = .ok (.iload 5, 2) := by decide +kernel
theorem dX4_deal_173 : decode cX4_deal 173 = .ok (.baload, 1) := by decide +kernel
theorem dX4_deal_174 : decode cX4_deal 174 = .ok (.aload_n 0, 1) := by decide +kernel
theorem dX4_deal_175 : decode cX4_deal 175 = .ok (.getfield 45, 3) := by decide +kernel
theorem dX4_deal_178 : decode cX4_deal 178 = .ok (.iload 5, 2) := by decide +kernel
theorem dX4_deal_180 : decode cX4_deal 180 = .ok (.laload, 1) := by decide +kernel
theorem dX4_deal_181 : decode cX4_deal 181 = .ok (.aload_n 0, 1) := by decide +kernel
theorem dX4_deal_182 : decode cX4_deal 182 = .ok (.getfield 66, 3) := by decide +kernel
theorem dX4_deal_185 : decode cX4_deal 185 = .ok (.iconst 1, 1) := by decide +kernel
theorem dX4_deal_186 : decode cX4_deal 186 = .ok (.iadd, 1) := by decide +kernel
theorem dX4_deal_187 : decode cX4_deal 187 = .ok (.invokevirtual 69, 3) := by decide +kernel
theorem dX4_deal_190 : decode cX4_deal 190 = .ok (.iinc 5 1, 3) := by decide +kernel
theorem dX4_deal_193 : decode cX4_deal 193 = .ok (.goto (-72), 3) := by decide +kernel
theorem dX4_deal_196 : decode cX4_deal 196 = .ok (.aload_n 0, 1) := by decide +kernel
theorem dX4_deal_197 : decode cX4_deal 197 = .ok (.getfield 55, 3) := by decide +kernel
theorem dX4_deal_200 : decode cX4_deal 200 = .ok (.sipush 300, 3) := by decide +kernel
theorem dX4_deal_203 : decode cX4_deal 203 = .ok (.if_icmp .le 55, 3) := by decide +kernel
theorem dX4_deal_206 : decode cX4_deal 206 = .ok (.aload_n 0, 1) := by decide +kernel
theorem dX4_deal_207 : decode cX4_deal 207 = .ok (.iload 4, 2) := by decide +kernel
theorem dX4_deal_209 : decode cX4_deal 209 = .ok (.putfield 55, 3) := by decide +kernel
theorem dX4_deal_212 : decode cX4_deal 212 = .ok (.iconst 0, 1) := by decide +kernel
theorem dX4_deal_213 : decode cX4_deal 213 = .ok (.istore 5, 2) := by decide +kernel
theorem dX4_deal_215 : decode cX4_deal 215 = .ok (.iload 5, 2) := by decide +kernel
theorem dX4_deal_217 : decode cX4_deal 217 = .ok (.aload_n 0, 1) := by decide +kernel
theorem dX4_deal_218 : decode cX4_deal 218 = .ok (.getfield 55, 3) := by decide +kernel
theorem dX4_deal_221 : decode cX4_deal 221 = .ok (.if_icmp .ge 31, 3) := by decide +kernel
theorem dX4_deal_224 : decode cX4_deal 224 = .ok (.aload_n 0, 1) := by decide +kernel
theorem dX4_deal_225 : decode cX4_deal 225 = .ok (.getfield 16, 3) := by decide +kernel
theorem dX4_deal_228 : decode cX4_deal 228 = .ok (.iload 5, 2) := by decide +kernel
theorem dX4_deal_230 : decode cX4_deal 230 = .ok (.iaload, 1) := by decide +kernel
theorem dX4_deal_231 : decode cX4_deal 231 = .ok (.aload_n 0, 1) := by decide +kernel
theorem dX4_deal_232 : decode cX4_deal 232 = .ok (.getfield 55, 3) := by decide +kernel
theorem dX4_deal_235 : decode cX4_deal 235 = .ok (.if_icmp .lt 11, 3) := by decide +kernel
theorem dX4_deal_238 : decode cX4_deal 238 = .ok (.aload_n 0, 1) := by decide +kernel
theorem dX4_deal_239 : decode cX4_deal 239 = .ok (.getfield 16, 3) := by decide +kernel
theorem dX4_deal_242 : decode cX4_deal 242 = .ok (.iload 5, 2) := by decide +kernel
theorem dX4_deal_244 : decode cX4_deal 244 = .ok (.iconst (-1), 1) := by decide +kernel
theorem dX4_deal_245 : decode cX4_deal 245 = .ok (.iastore, 1) := by decide +kernel
theorem dX4_deal_246 : decode cX4_deal 246 = .ok (.iinc 5 1, 3) := by decide +kernel
theorem dX4_deal_249 : decode cX4_deal 249 = .ok (.goto (-34), 3) := by decide +kernel
theorem dX4_deal_252 : decode cX4_deal 252 = .ok (.aload_n 0, 1) := by decide +kernel
theorem dX4_deal_253 : decode cX4_deal 253 = .ok (.iconst 1, 1) := by decide +kernel
theorem dX4_deal_254 : decode cX4_deal 254 = .ok (.invokevirtual 62, 3) := by decide +kernel
theorem dX4_deal_257 : decode cX4_deal 257 = .ok (.ireturn, 1) := by decide +kernel
theorem dX4_deal_258 : decode cX4_deal 258 = .ok (.aload_n 0, 1) := by decide +kernel
theorem dX4_deal_259 : decode cX4_deal 259 = .ok (.iconst 0, 1) := by decide +kernel
theorem dX4_deal_260 : decode cX4_deal 260 = .ok (.putfield 51, 3) := by decide +kernel
theorem dX4_deal_263 : decode cX4_deal 263 = .ok (.aload_n 0, 1) := by decide +kernel
theorem dX4_deal_264 : decode cX4_deal 264 = .ok (.getfield 55, 3) := by decide +kernel
theorem dX4_deal_267 : decode cX4_deal 267 = .ok (.iload 4, 2) := by decide +kernel
theorem dX4_deal_269 : decode cX4_deal 269 = .ok (.if_icmp .le 13, 3) := by decide +kernel
theorem dX4_deal_272 : decode cX4_deal 272 = .ok (.aload_n 0, 1) := by decide +kernel
theorem dX4_deal_273 : decode cX4_deal 273 = .ok (.dup, 1) := by decide +kernel
theorem dX4_deal_274 : decode cX4_deal 274 = .ok (.getfield 66, 3) := by decide +kernel
theorem dX4_deal_277 : decode cX4_deal 277 = .ok (.iconst 1, 1) := by decide +kernel
theorem dX4_deal_278 : decode cX4_deal 278 = .ok (.iadd, 1) := by decide +kernel
theorem dX4_deal_279 : decode cX4_deal 279 = .ok (.putfield 66, 3) := by decide +kernel
theorem dX4_deal_282 : decode cX4_deal 282 = .ok (.aload_n 0, 1) := by decide +kernel
theorem dX4_deal_283 : decode cX4_deal 283 = .ok (.iconst 0, 1) := by decide +kernel
theorem dX4_deal_284 : decode cX4_deal 284 = .ok (.putfield 77, 3) := by decide +kernel
theorem dX4_deal_287 : decode cX4_deal 287 = .ok (.aload_n 0, 1) := by decide +kernel
theorem dX4_deal_288 : decode cX4_deal 288 = .ok (.iconst 0, 1) := by decide +kernel
theorem dX4_deal_289 : decode cX4_deal 289 = .ok (.putfield 80, 3) := by decide +kernel
theorem dX4_deal_292 : decode cX4_deal 292 = .ok (.aload_n 0, 1) := by decide +kernel
theorem dX4_deal_293 : decode cX4_deal 293 = .ok (.iconst 0, 1) := by decide +kernel
theorem dX4_deal_294 : decode cX4_deal 294 = .ok (.putfield 83, 3) := by decide +kernel
theorem dX4_deal_297 : decode cX4_deal 297 = .ok (.iload_n 1, 1) := by decide +kernel
theorem dX4_deal_298 : decode cX4_deal 298 = .ok (.ifCond .eq 7, 3) := by decide +kernel
theorem dX4_deal_301 : decode cX4_deal 301 = .ok (.iconst 1, 1) := by decide +kernel
theorem dX4_deal_302 : decode cX4_deal 302 = .ok (.goto 4, 3) := by decide +kernel
theorem dX4_deal_305 : decode cX4_deal 305 = .ok (.iconst 2, 1) := by decide +kernel
theorem dX4_deal_306 : decode cX4_deal 306 = .ok (.ireturn, 1) := by decide +kernel
theorem dX4_reading_0 : decode cX4_reading 0 = .ok (.aload_n 0, 1) := by decide +kernel
theorem dX4_reading_1 : decode cX4_reading 1 = .ok (.iload_n 2, 1) := by decide +kernel
theorem dX4_reading_2 : decode cX4_reading 2 = .ok (.ifCond .ne 7, 3) := by decide +kernel
theorem dX4_reading_5 : decode cX4_reading 5 = .ok (.iload_n 1, 1) := by decide +kernel
theorem dX4_reading_6 : decode cX4_reading 6 = .ok (.ifCond .ge 7, 3) := by decide +kernel
theorem dX4_reading_9 : decode cX4_reading 9 = .ok (.iconst 1, 1) := by decide +kernel
theorem dX4_reading_10 : decode cX4_reading 10 = .ok (.goto 28, 3) := by decide +kernel
theorem dX4_reading_13 : decode cX4_reading 13 = .ok (.iload_n 1, 1) := by decide +kernel
theorem dX4_reading_14 : decode cX4_reading 14 = .ok (.ifCond .eq 23, 3) := by decide +kernel
theorem dX4_reading_17 : decode cX4_reading 17 = .ok (.iload_n 1, 1) := by decide +kernel
theorem dX4_reading_18 : decode cX4_reading 18 = .ok (.aload_n 0, 1) := by decide +kernel
theorem dX4_reading_19 : decode cX4_reading 19 = .ok (.getfield 90, 3) := by decide +kernel
theorem dX4_reading_22 : decode cX4_reading 22 = .ok (.if_icmp .lt 11, 3) := by decide +kernel
theorem dX4_reading_25 : decode cX4_reading 25 = .ok (.iload_n 1, 1) := by decide +kernel
theorem dX4_reading_26 : decode cX4_reading 26 = .ok (.aload_n 0, 1) := by decide +kernel
theorem dX4_reading_27 : decode cX4_reading 27 = .ok (.getfield 66, 3) := by decide +kernel
theorem dX4_reading_30 : decode cX4_reading 30 = .ok (.if_icmp .le 7, 3) := by decide +kernel
theorem dX4_reading_33 : decode cX4_reading 33 = .ok (.iconst 2, 1) := by decide +kernel
theorem dX4_reading_34 : decode cX4_reading 34 = .ok (.goto 4, 3) := by decide +kernel
theorem dX4_reading_37 : decode cX4_reading 37 = .ok (.iconst 0, 1) := by decide +kernel
theorem dX4_reading_38 : decode cX4_reading 38 = .ok (.putfield 51, 3) := by decide +kernel
theorem dX4_reading_41 : decode cX4_reading 41 = .ok (.iload_n 1, 1) := by decide +kernel
theorem dX4_reading_42 : decode cX4_reading 42 = .ok (.ifCond .ne 10, 3) := by decide +kernel
theorem dX4_reading_45 : decode cX4_reading 45 = .ok (.aload_n 0, 1) := by decide +kernel
theorem dX4_reading_46 : decode cX4_reading 46 = .ok (.getfield 66, 3) := by decide +kernel
theorem dX4_reading_49 : decode cX4_reading 49 = .ok (.goto 4, 3) := by decide +kernel
theorem dX4_reading_52 : decode cX4_reading 52 = .ok (.iload_n 1, 1) := by decide +kernel
theorem dX4_reading_53 : decode cX4_reading 53 = .ok (.ireturn, 1) := by decide +kernel
theorem dX4_get_0 : decode cX4_get 0 = .ok (.aload_n 0, 1) := by decide +kernel
theorem dX4_get_1 : decode cX4_get 1 = .ok (.iload_n 2, 1) := by decide +kernel
theorem dX4_get_2 : decode cX4_get 2 = .ok (.iconst 0, 1) := by decide +kernel
theorem dX4_get_3 : decode cX4_get 3 = .ok (.invokevirtual 93, 3) := by decide +kernel
theorem dX4_get_6 : decode cX4_get 6 = .ok (.istore_n 3, 1) := by decide +kernel
theorem dX4_get_7 : decode cX4_get 7 = .ok (.aload_n 0, 1) := by decide +kernel
theorem dX4_get_8 : decode cX4_get 8 = .ok (.getfield 51, 3) := by decide +kernel
theorem dX4_get_11 : decode cX4_get 11 = .ok (.ifCond .eq 5, 3) := by decide +kernel
theorem dX4_get_14 : decode cX4_get 14 = .ok (.lconst 0, 1) := by decide +kernel
theorem dX4_get_15 : decode cX4_get 15 = .ok (.lreturn, 1) := by decide +kernel
theorem dX4_get_16 : decode cX4_get 16 = .ok (.aload_n 0, 1) := by decide +kernel
theorem dX4_get_17 : decode cX4_get 17 = .ok (.iload_n 1, 1) := by decide +kernel
theorem dX4_get_18 : decode cX4_get 18 = .ok (.iload_n 3, 1) := by decide +kernel
theorem dX4_get_19 : decode cX4_get 19 = .ok (.invokevirtual 73, 3) := by decide +kernel
theorem dX4_get_22 : decode cX4_get 22 = .ok (.ifCond .ne 10, 3) := by decide +kernel
theorem dX4_get_25 : decode cX4_get 25 = .ok (.aload_n 0, 1) := by decide +kernel
theorem dX4_get_26 : decode cX4_get 26 = .ok (.iconst 3, 1) := by decide +kernel
theorem dX4_get_27 : decode cX4_get 27 = .ok (.invokevirtual 62, 3) := by decide +kernel
theorem dX4_get_30 : decode cX4_get 30 = .ok (.i2l, 1) := by decide +kernel
theorem dX4_get_31 : decode cX4_get 31 = .ok (.lreturn, 1) := by decide +kernel
theorem dX4_get_32 : decode cX4_get 32 = .ok (.aload_n 0, 1) := by decide +kernel
theorem dX4_get_33 : decode cX4_get 33 = .ok (.iload_n 1, 1) := by decide +kernel
theorem dX4_get_34 : decode cX4_get 34 = .ok (.iload_n 3, 1) := by decide +kernel
theorem dX4_get_35 : decode cX4_get 35 = .ok (.iconst 0, 1) := by decide +kernel
theorem dX4_get_36 : decode cX4_get 36 = .ok (.invokevirtual 86, 3) := by decide +kernel
theorem dX4_get_39 : decode cX4_get 39 = .ok (.lreturn, 1) := by decide +kernel
theorem dX4_state_0 : decode cX4_state 0 = .ok (.aload_n 0, 1) := by decide +kernel
theorem dX4_state_1 : decode cX4_state 1 = .ok (.iload_n 2, 1) := by decide +kernel
theorem dX4_state_2 : decode cX4_state 2 = .ok (.iload_n 3, 1) := by decide +kernel
theorem dX4_state_3 : decode cX4_state 3 = .ok (.iconst 1, 1) := by decide +kernel
theorem dX4_state_4 : decode cX4_state 4 = .ok (.if_icmp .lt 8, 3) := by decide +kernel
theorem dX4_state_7 : decode cX4_state 7 = .ok (.iload_n 3, 1) := by decide +kernel
theorem dX4_state_8 : decode cX4_state 8 = .ok (.iconst 3, 1) := by decide +kernel
theorem dX4_state_9 : decode cX4_state 9 = .ok (.if_icmp .le 7, 3) := by decide +kernel
theorem dX4_state_12 : decode cX4_state 12 = .ok (.iconst 1, 1) := by decide +kernel
theorem dX4_state_13 : decode cX4_state 13 = .ok (.goto 4, 3) := by decide +kernel
theorem dX4_state_16 : decode cX4_state 16 = .ok (.iconst 0, 1) := by decide +kernel
theorem dX4_state_17 : decode cX4_state 17 = .ok (.invokevirtual 93, 3) := by decide +kernel
theorem dX4_state_20 : decode cX4_state 20 = .ok (.istore 4, 2) := by decide +kernel
theorem dX4_state_22 : decode cX4_state 22 = .ok (.aload_n 0, 1) := by decide +kernel
theorem dX4_state_23 : decode cX4_state 23 = .ok (.getfield 51, 3) := by decide +kernel
theorem dX4_state_26 : decode cX4_state 26 = .ok (.ifCond .eq 7, 3) := by decide +kernel
theorem dX4_state_29 : decode cX4_state 29 = .ok (.iconst 0, 1) := by decide +kernel
theorem dX4_state_30 : decode cX4_state 30 = .ok (.goto 12, 3) := by decide +kernel
theorem dX4_state_33 : decode cX4_state 33 = .ok (.aload_n 0, 1) := by decide +kernel
theorem dX4_state_34 : decode cX4_state 34 = .ok (.iload_n 1, 1) := by decide +kernel
theorem dX4_state_35 : decode cX4_state 35 = .ok (.iload 4, 2) := by decide +kernel
theorem dX4_state_37 : decode cX4_state 37 = .ok (.iload_n 3, 1) := by decide +kernel
theorem dX4_state_38 : decode cX4_state 38 = .ok (.invokevirtual 86, 3) := by decide +kernel
theorem dX4_state_41 : decode cX4_state 41 = .ok (.l2i, 1) := by decide +kernel
theorem dX4_state_42 : decode cX4_state 42 = .ok (.ireturn, 1) := by decide +kernel
theorem dX4_gather_0 : decode cX4_gather 0 = .ok (.iconst 0, 1) := by decide +kernel
theorem dX4_gather_1 : decode cX4_gather 1 = .ok (.istore 4, 2) := by decide +kernel
theorem dX4_gather_3 : decode cX4_gather 3 = .ok (.iconst 0, 1) := by decide +kernel
theorem dX4_gather_4 : decode cX4_gather 4 = .ok (.istore 5, 2) := by decide +kernel
theorem dX4_gather_6 : decode cX4_gather 6 = .ok (.iload 5, 2) := by decide +kernel
theorem dX4_gather_8 : decode cX4_gather 8 = .ok (.aload_n 0, 1) := by decide +kernel
theorem dX4_gather_9 : decode cX4_gather 9 = .ok (.getfield 55, 3) := by decide +kernel
theorem dX4_gather_12 : decode cX4_gather 12 = .ok (.if_icmp .ge 110, 3) := by decide +kernel
theorem dX4_gather_15 : decode cX4_gather 15 = .ok (.aload_n 0, 1) := by decide +kernel
theorem dX4_gather_16 : decode cX4_gather 16 = .ok (.getfield 13, 3) := by decide +kernel
theorem dX4_gather_19 : decode cX4_gather 19 = .ok (.iload 5, 2) := by decide +kernel
theorem dX4_gather_21 : decode cX4_gather 21 = .ok (.iaload, 1) := by decide +kernel
theorem dX4_gather_22 : decode cX4_gather 22 = .ok (.iload_n 3, 1) := by decide +kernel
theorem dX4_gather_23 : decode cX4_gather 23 = .ok (.if_icmp .gt 99, 3) := by decide +kernel
theorem dX4_gather_26 : decode cX4_gather 26 = .ok (.aload_n 0, 1) := by decide +kernel
theorem dX4_gather_27 : decode cX4_gather 27 = .ok (.getfield 16, 3) := by decide +kernel
theorem dX4_gather_30 : decode cX4_gather 30 = .ok (.iload 5, 2) := by decide +kernel
theorem dX4_gather_32 : decode cX4_gather 32 = .ok (.iaload, 1) := by decide +kernel
theorem dX4_gather_33 : decode cX4_gather 33 = .ok (.ifCond .lt 19, 3) := by decide +kernel
theorem dX4_gather_36 : decode cX4_gather 36 = .ok (.aload_n 0, 1) := by decide +kernel
theorem dX4_gather_37 : decode cX4_gather 37 = .ok (.getfield 13, 3) := by decide +kernel
theorem dX4_gather_40 : decode cX4_gather 40 = .ok (.aload_n 0, 1) := by decide +kernel
theorem dX4_gather_41 : decode cX4_gather 41 = .ok (.getfield 16, 3) := by decide +kernel
theorem dX4_gather_44 : decode cX4_gather 44 = .ok (.iload 5, 2) := by decide +kernel
theorem dX4_gather_46 : decode cX4_gather 46 = .ok (.iaload, 1) := by decide +kernel
theorem dX4_gather_47 : decode cX4_gather 47 = .ok (.iaload, 1) := by decide +kernel
theorem dX4_gather_48 : decode cX4_gather 48 = .ok (.iload_n 3, 1) := by decide +kernel
theorem dX4_gather_49 : decode cX4_gather 49 = .ok (.if_icmp .le 7, 3) := by decide +kernel
theorem dX4_gather_52 : decode cX4_gather 52 = .ok (.iconst 1, 1) := by decide +kernel
theorem dX4_gather_53 : decode cX4_gather 53 = .ok (.goto 4, 3) := by decide +kernel
theorem dX4_gather_56 : decode cX4_gather 56 = .ok (.iconst 0, 1) := by decide +kernel
theorem dX4_gather_57 : decode cX4_gather 57 = .ok (.istore 6, 2) := by decide +kernel
theorem dX4_gather_59 : decode cX4_gather 59 = .ok (.iload 6, 2) := by decide +kernel
theorem dX4_gather_61 : decode cX4_gather 61 = .ok (.ifCond .eq 55, 3) := by decide +kernel
theorem dX4_gather_64 : decode cX4_gather 64 = .ok (.aload_n 0, 1) := by decide +kernel
theorem dX4_gather_65 : decode cX4_gather 65 = .ok (.getfield 23, 3) := by decide +kernel
theorem dX4_gather_68 : decode cX4_gather 68 = .ok (.iload 5, 2) := by decide +kernel
theorem dX4_gather_70 : decode cX4_gather 70 = .ok (.baload, 1) := by decide +kernel
theorem dX4_gather_71 : decode cX4_gather 71 = .ok (.ifCond .eq 45, 3) := by decide +kernel
theorem dX4_gather_74 : decode cX4_gather 74 = .ok (.aload_n 0, 1) := by decide +kernel
theorem dX4_gather_75 : decode cX4_gather 75 = .ok (.getfield 7, 3) := by decide +kernel
theorem dX4_gather_78 : decode cX4_gather 78 = .ok (.iload 5, 2) := by decide +kernel
theorem dX4_gather_80 : decode cX4_gather 80 = .ok (.iaload, 1) := by decide +kernel
theorem dX4_gather_81 : decode cX4_gather 81 = .ok (.iload_n 1, 1) := by decide +kernel
theorem dX4_gather_82 : decode cX4_gather 82 = .ok (.if_icmp .lt 34, 3) := by decide +kernel
theorem dX4_gather_85 : decode cX4_gather 85 = .ok (.aload_n 0, 1) := by decide +kernel
theorem dX4_gather_86 : decode cX4_gather 86 = .ok (.getfield 7, 3) := by decide +kernel
theorem dX4_gather_89 : decode cX4_gather 89 = .ok (.iload 5, 2) := by decide +kernel
theorem dX4_gather_91 : decode cX4_gather 91 = .ok (.iaload, 1) := by decide +kernel
theorem dX4_gather_92 : decode cX4_gather 92 = .ok (.iload_n 2, 1) := by decide +kernel
theorem dX4_gather_93 : decode cX4_gather 93 = .ok (.if_icmp .lt 6, 3) := by decide +kernel
theorem dX4_gather_96 : decode cX4_gather 96 = .ok (.goto 20, 3) := by decide +kernel
theorem dX4_gather_99 : decode cX4_gather 99 = .ok (.aload_n 0, 1) := by decide +kernel
theorem dX4_gather_100 : decode cX4_gather 100 = .ok (.getfield 48, 3) := by decide +kernel
theorem dX4_gather_103 : decode cX4_gather 103 = .ok (.iload 4, 2) := by decide +kernel
theorem dX4_gather_105 : decode cX4_gather 105 = .ok (.aload_n 0, 1) := by decide +kernel
theorem dX4_gather_106 : decode cX4_gather 106 = .ok (.getfield 7, 3) := by decide +kernel
theorem dX4_gather_109 : decode cX4_gather 109 = .ok (.iload 5, 2) := by decide +kernel
theorem dX4_gather_111 : decode cX4_gather 111 = .ok (.iaload, 1) := by decide +kernel
theorem dX4_gather_112 : decode cX4_gather 112 = .ok (.iastore, 1) := by decide +kernel
theorem dX4_gather_113 : decode cX4_gather 113 = .ok (.iinc 4 1, 3) := by decide +kernel
theorem dX4_gather_116 : decode cX4_gather 116 = .ok (.iinc 5 1, 3) := by decide +kernel
theorem dX4_gather_119 : decode cX4_gather 119 = .ok (.goto (-113), 3) := by decide +kernel
theorem dX4_gather_122 : decode cX4_gather 122 = .ok (.iload 4, 2) := by decide +kernel
theorem dX4_gather_124 : decode cX4_gather 124 = .ok (.ireturn, 1) := by decide +kernel
theorem dX4_many_0 : decode cX4_many 0 = .ok (.aload_n 0, 1) := by decide +kernel
theorem dX4_many_1 : decode cX4_many 1 = .ok (.iload_n 3, 1) := by decide +kernel
theorem dX4_many_2 : decode cX4_many 2 = .ok (.iconst 0, 1) := by decide +kernel
theorem dX4_many_3 : decode cX4_many 3 = .ok (.invokevirtual 93, 3) := by decide +kernel
theorem dX4_many_6 : decode cX4_many 6 = .ok (.istore 4, 2) := by decide +kernel
theorem dX4_many_8 : decode cX4_many 8 = .ok (.aload_n 0, 1) := by decide +kernel
theorem dX4_many_9 : decode cX4_many 9 = .ok (.getfield 51, 3) := by decide +kernel
theorem dX4_many_12 : decode cX4_many 12 = .ok (.ifCond .eq 7, 3) := by decide +kernel
theorem dX4_many_15 : decode cX4_many 15 = .ok (.iconst 0, 1) := by decide +kernel
theorem dX4_many_16 : decode cX4_many 16 = .ok (.goto 11, 3) := by decide +kernel
theorem dX4_many_19 : decode cX4_many 19 = .ok (.aload_n 0, 1) := by decide +kernel
theorem dX4_many_20 : decode cX4_many 20 = .ok (.iload_n 1, 1) := by decide +kernel
theorem dX4_many_21 : decode cX4_many 21 = .ok (.iload_n 2, 1) := by decide +kernel
theorem dX4_many_22 : decode cX4_many 22 = .ok (.iload 4, 2) := by decide +kernel
theorem dX4_many_24 : decode cX4_many 24 = .ok (.invokevirtual 97, 3) := by decide +kernel
theorem dX4_many_27 : decode cX4_many 27 = .ok (.ireturn, 1) := by decide +kernel
theorem dX4_key_0 : decode cX4_key 0 = .ok (.aload_n 0, 1) := by decide +kernel
theorem dX4_key_1 : decode cX4_key 1 = .ok (.iload_n 3, 1) := by decide +kernel
theorem dX4_key_2 : decode cX4_key 2 = .ok (.iconst 0, 1) := by decide +kernel
theorem dX4_key_3 : decode cX4_key 3 = .ok (.invokevirtual 93, 3) := by decide +kernel
theorem dX4_key_6 : decode cX4_key 6 = .ok (.istore 5, 2) := by decide +kernel
theorem dX4_key_8 : decode cX4_key 8 = .ok (.aload_n 0, 1) := by decide +kernel
theorem dX4_key_9 : decode cX4_key 9 = .ok (.getfield 51, 3) := by decide +kernel
theorem dX4_key_12 : decode cX4_key 12 = .ok (.ifCond .eq 5, 3) := by decide +kernel
theorem dX4_key_15 : decode cX4_key 15 = .ok (.iconst 0, 1) := by decide +kernel
theorem dX4_key_16 : decode cX4_key 16 = .ok (.ireturn, 1) := by decide +kernel
theorem dX4_key_17 : decode cX4_key 17 = .ok (.aload_n 0, 1) := by decide +kernel
theorem dX4_key_18 : decode cX4_key 18 = .ok (.iload_n 1, 1) := by decide +kernel
theorem dX4_key_19 : decode cX4_key 19 = .ok (.iload_n 2, 1) := by decide +kernel
theorem dX4_key_20 : decode cX4_key 20 = .ok (.iload 5, 2) := by decide +kernel
theorem dX4_key_22 : decode cX4_key 22 = .ok (.invokevirtual 97, 3) := by decide +kernel
theorem dX4_key_25 : decode cX4_key 25 = .ok (.istore 6, 2) := by decide +kernel
theorem dX4_key_27 : decode cX4_key 27 = .ok (.iload 4, 2) := by decide +kernel
theorem dX4_key_29 : decode cX4_key 29 = .ok (.ifCond .lt 10, 3) := by decide +kernel
theorem dX4_key_32 : decode cX4_key 32 = .ok (.iload 4, 2) := by decide +kernel
theorem dX4_key_34 : decode cX4_key 34 = .ok (.iload 6, 2) := by decide +kernel
theorem dX4_key_36 : decode cX4_key 36 = .ok (.if_icmp .lt 9, 3) := by decide +kernel
theorem dX4_key_39 : decode cX4_key 39 = .ok (.aload_n 0, 1) := by decide +kernel
theorem dX4_key_40 : decode cX4_key 40 = .ok (.iconst 3, 1) := by decide +kernel
theorem dX4_key_41 : decode cX4_key 41 = .ok (.invokevirtual 62, 3) := by decide +kernel
theorem dX4_key_44 : decode cX4_key 44 = .ok (.ireturn, 1) := by decide +kernel
theorem dX4_key_45 : decode cX4_key 45 = .ok (.iconst 0, 1) := by decide +kernel
theorem dX4_key_46 : decode cX4_key 46 = .ok (.istore 7, 2) := by decide +kernel
theorem dX4_key_48 : decode cX4_key 48 = .ok (.iload 7, 2) := by decide +kernel
theorem dX4_key_50 : decode cX4_key 50 = .ok (.iload 4, 2) := by decide +kernel
theorem dX4_key_52 : decode cX4_key 52 = .ok (.if_icmp .gt 85, 3) := by decide +kernel
theorem dX4_key_55 : decode cX4_key 55 = .ok (.iload 7, 2) := by decide +kernel
theorem dX4_key_57 : decode cX4_key 57 = .ok (.istore 8, 2) := by decide +kernel
theorem dX4_key_59 : decode cX4_key 59 = .ok (.iload 7, 2) := by decide +kernel
theorem dX4_key_61 : decode cX4_key 61 = .ok (.iconst 1, 1) := by decide +kernel
theorem dX4_key_62 : decode cX4_key 62 = .ok (.iadd, 1) := by decide +kernel
theorem dX4_key_63 : decode cX4_key 63 = .ok (.istore 9, 2) := by decide +kernel
theorem dX4_key_65 : decode cX4_key 65 = .ok (.iload 9, 2) := by decide +kernel
theorem dX4_key_67 : decode cX4_key 67 = .ok (.iload 6, 2) := by decide +kernel
theorem dX4_key_69 : decode cX4_key 69 = .ok (.if_icmp .ge 30, 3) := by decide +kernel
theorem dX4_key_72 : decode cX4_key 72 = .ok (.aload_n 0, 1) := by decide +kernel
theorem dX4_key_73 : decode cX4_key 73 = .ok (.getfield 48, 3) := by decide +kernel
theorem dX4_key_76 : decode cX4_key 76 = .ok (.iload 9, 2) := by decide +kernel
theorem dX4_key_78 : decode cX4_key 78 = .ok (.iaload, 1) := by decide +kernel
theorem dX4_key_79 : decode cX4_key 79 = .ok (.aload_n 0, 1) := by decide +kernel
theorem dX4_key_80 : decode cX4_key 80 = .ok (.getfield 48, 3) := by decide +kernel
theorem dX4_key_83 : decode cX4_key 83 = .ok (.iload 8, 2) := by decide +kernel
theorem dX4_key_85 : decode cX4_key 85 = .ok (.iaload, 1) := by decide +kernel
theorem dX4_key_86 : decode cX4_key 86 = .ok (.if_icmp .ge 7, 3) := by decide +kernel
theorem dX4_key_89 : decode cX4_key 89 = .ok (.iload 9, 2) := by decide +kernel
theorem dX4_key_91 : decode cX4_key 91 = .ok (.istore 8, 2) := by decide +kernel
theorem dX4_key_93 : decode cX4_key 93 = .ok (.iinc 9 1, 3) := by decide +kernel
theorem dX4_key_96 : decode cX4_key 96 = .ok (.goto (-31), 3) := by decide +kernel
theorem dX4_key_99 : decode cX4_key 99 = .ok (.aload_n 0, 1) := by decide +kernel
theorem dX4_key_100 : decode cX4_key 100 = .ok (.getfield 48, 3) := by decide +kernel
theorem dX4_key_103 : decode cX4_key 103 = .ok (.iload 7, 2) := by decide +kernel
theorem dX4_key_105 : decode cX4_key 105 = .ok (.iaload, 1) := by decide +kernel
theorem dX4_key_106 : decode cX4_key 106 = .ok (.istore 9, 2) := by decide +kernel
theorem dX4_key_108 : decode cX4_key 108 = .ok (.aload_n 0, 1) := by decide +kernel
theorem dX4_key_109 : decode cX4_key 109 = .ok (.getfield 48, 3) := by decide +kernel
theorem dX4_key_112 : decode cX4_key 112 = .ok (.iload 7, 2) := by decide +kernel
theorem dX4_key_114 : decode cX4_key 114 = .ok (.aload_n 0, 1) := by decide +kernel
theorem dX4_key_115 : decode cX4_key 115 = .ok (.getfield 48, 3) := by decide +kernel
theorem dX4_key_118 : decode cX4_key 118 = .ok (.iload 8, 2) := by decide +kernel
theorem dX4_key_120 : decode cX4_key 120 = .ok (.iaload, 1) := by decide +kernel
theorem dX4_key_121 : decode cX4_key 121 = .ok (.iastore, 1) := by decide +kernel
theorem dX4_key_122 : decode cX4_key 122 = .ok (.aload_n 0, 1) := by decide +kernel
theorem dX4_key_123 : decode cX4_key 123 = .ok (.getfield 48, 3) := by decide +kernel
theorem dX4_key_126 : decode cX4_key 126 = .ok (.iload 8, 2) := by decide +kernel
theorem dX4_key_128 : decode cX4_key 128 = .ok (.iload 9, 2) := by decide +kernel
theorem dX4_key_130 : decode cX4_key 130 = .ok (.iastore, 1) := by decide +kernel
theorem dX4_key_131 : decode cX4_key 131 = .ok (.iinc 7 1, 3) := by decide +kernel
theorem dX4_key_134 : decode cX4_key 134 = .ok (.goto (-86), 3) := by decide +kernel
theorem dX4_key_137 : decode cX4_key 137 = .ok (.aload_n 0, 1) := by decide +kernel
theorem dX4_key_138 : decode cX4_key 138 = .ok (.getfield 48, 3) := by decide +kernel
theorem dX4_key_141 : decode cX4_key 141 = .ok (.iload 4, 2) := by decide +kernel
theorem dX4_key_143 : decode cX4_key 143 = .ok (.iaload, 1) := by decide +kernel
theorem dX4_key_144 : decode cX4_key 144 = .ok (.ireturn, 1) := by decide +kernel
theorem dX4_compact_0 : decode cX4_compact 0 = .ok (.aload_n 0, 1) := by decide +kernel
theorem dX4_compact_1 : decode cX4_compact 1 = .ok (.iload_n 1, 1) := by decide +kernel
theorem dX4_compact_2 : decode cX4_compact 2 = .ok (.iconst 1, 1) := by decide +kernel
theorem dX4_compact_3 : decode cX4_compact 3 = .ok (.if_icmp .lt 11, 3) := by decide +kernel
theorem dX4_compact_6 : decode cX4_compact 6 = .ok (.iload_n 1, 1) := by decide +kernel
theorem dX4_compact_7 : decode cX4_compact 7 = .ok (.aload_n 0, 1) := by decide +kernel
theorem dX4_compact_8 : decode cX4_compact 8 = .ok (.getfield 66, 3) := by decide +kernel
theorem dX4_compact_11 : decode cX4_compact 11 = .ok (.if_icmp .le 7, 3) := by decide +kernel
theorem dX4_compact_14 : decode cX4_compact 14 = .ok (.iconst 1, 1) := by decide +kernel
theorem dX4_compact_15 : decode cX4_compact 15 = .ok (.goto 16, 3) := by decide +kernel
theorem dX4_compact_18 : decode cX4_compact 18 = .ok (.iload_n 1, 1) := by decide +kernel
theorem dX4_compact_19 : decode cX4_compact 19 = .ok (.aload_n 0, 1) := by decide +kernel
theorem dX4_compact_20 : decode cX4_compact 20 = .ok (.getfield 90, 3) := by decide +kernel
theorem dX4_compact_23 : decode cX4_compact 23 = .ok (.if_icmp .gt 7, 3) := by decide +kernel
theorem dX4_compact_26 : decode cX4_compact 26 = .ok (.iconst 2, 1) := by decide +kernel
theorem dX4_compact_27 : decode cX4_compact 27 = .ok (.goto 4, 3) := by decide +kernel
theorem dX4_compact_30 : decode cX4_compact 30 = .ok (.iconst 0, 1) := by decide +kernel
theorem dX4_compact_31 : decode cX4_compact 31 = .ok (.putfield 51, 3) := by decide +kernel
theorem dX4_compact_34 : decode cX4_compact 34 = .ok (.aload_n 0, 1) := by decide +kernel
theorem dX4_compact_35 : decode cX4_compact 35 = .ok (.getfield 51, 3) := by decide +kernel
theorem dX4_compact_38 : decode cX4_compact 38 = .ok (.ifCond .ne 8, 3) := by decide +kernel
theorem dX4_compact_41 : decode cX4_compact 41 = .ok (.aload_n 0, 1) := by decide +kernel
theorem dX4_compact_42 : decode cX4_compact 42 = .ok (.iload_n 1, 1) := by decide +kernel
theorem dX4_compact_43 : decode cX4_compact 43 = .ok (.putfield 90, 3) := by decide +kernel
theorem dX4_compact_46 : decode cX4_compact 46 = .ok (.return_, 1) := by decide +kernel
theorem dX4_event_0 : decode cX4_event 0 = .ok (.aload_n 0, 1) := by decide +kernel
theorem dX4_event_1 : decode cX4_event 1 = .ok (.iload_n 1, 1) := by decide +kernel
theorem dX4_event_2 : decode cX4_event 2 = .ok (.iconst 1, 1) := by decide +kernel
theorem dX4_event_3 : decode cX4_event 3 = .ok (.if_icmp .lt 12, 3) := by decide +kernel
theorem dX4_event_6 : decode cX4_event 6 = .ok (.iload_n 3, 1) := by decide +kernel
theorem dX4_event_7 : decode cX4_event 7 = .ok (.ifCond .lt 8, 3) := by decide +kernel
theorem dX4_event_10 : decode cX4_event 10 = .ok (.iload_n 3, 1) := by decide +kernel
theorem dX4_event_11 : decode cX4_event 11 = .ok (.iconst 2, 1) := by decide +kernel
theorem dX4_event_12 : decode cX4_event 12 = .ok (.if_icmp .le 7, 3) := by decide +kernel
theorem dX4_event_15 : decode cX4_event 15 = .ok (.iconst 1, 1) := by decide +kernel
theorem dX4_event_16 : decode cX4_event 16 = .ok (.goto 16, 3) := by decide +kernel
theorem dX4_event_19 : decode cX4_event 19 = .ok (.iload_n 1, 1) := by decide +kernel
theorem dX4_event_20 : decode cX4_event 20 = .ok (.aload_n 0, 1) := by decide +kernel
theorem dX4_event_21 : decode cX4_event 21 = .ok (.getfield 90, 3) := by decide +kernel
theorem dX4_event_24 : decode cX4_event 24 = .ok (.if_icmp .gt 7, 3) := by decide +kernel
theorem dX4_event_27 : decode cX4_event 27 = .ok (.iconst 2, 1) := by decide +kernel
theorem dX4_event_28 : decode cX4_event 28 = .ok (.goto 4, 3) := by decide +kernel
theorem dX4_event_31 : decode cX4_event 31 = .ok (.iconst 0, 1) := by decide +kernel
theorem dX4_event_32 : decode cX4_event 32 = .ok (.putfield 51, 3) := by decide +kernel
theorem dX4_event_35 : decode cX4_event 35 = .ok (.aload_n 0, 1) := by decide +kernel
theorem dX4_event_36 : decode cX4_event 36 = .ok (.getfield 51, 3) := by decide +kernel
theorem dX4_event_39 : decode cX4_event 39 = .ok (.ifCond .eq 5, 3) := by decide +kernel
theorem dX4_event_42 : decode cX4_event 42 = .ok (.iconst 0, 1) := by decide +kernel
theorem dX4_event_43 : decode cX4_event 43 = .ok (.ireturn, 1) := by decide +kernel
theorem dX4_event_44 : decode cX4_event 44 = .ok (.iconst 0, 1) := by decide +kernel
theorem dX4_event_45 : decode cX4_event 45 = .ok (.istore 4, 2) := by decide +kernel
theorem dX4_event_47 : decode cX4_event 47 = .ok (.iload 4, 2) := by decide +kernel
theorem dX4_event_49 : decode cX4_event 49 = .ok (.aload_n 0, 1) := by decide +kernel
theorem dX4_event_50 : decode cX4_event 50 = .ok (.getfield 55, 3) := by decide +kernel
theorem dX4_event_53 : decode cX4_event 53 = .ok (.if_icmp .ge 20, 3) := by decide +kernel
theorem dX4_event_56 : decode cX4_event 56 = .ok (.aload_n 0, 1) := by decide +kernel
theorem dX4_event_57 : decode cX4_event 57 = .ok (.getfield 13, 3) := by decide +kernel
theorem dX4_event_60 : decode cX4_event 60 = .ok (.iload 4, 2) := by decide +kernel
theorem dX4_event_62 : decode cX4_event 62 = .ok (.iaload, 1) := by decide +kernel
theorem dX4_event_63 : decode cX4_event 63 = .ok (.iload_n 1, 1) := by decide +kernel
theorem dX4_event_64 : decode cX4_event 64 = .ok (.if_icmp .ge 9, 3) := by decide +kernel
theorem dX4_event_67 : decode cX4_event 67 = .ok (.iinc 4 1, 3) := by decide +kernel
theorem dX4_event_70 : decode cX4_event 70 = .ok (.goto (-23), 3) := by decide +kernel
theorem dX4_event_73 : decode cX4_event 73 = .ok (.iload_n 2, 1) := by decide +kernel
theorem dX4_event_74 : decode cX4_event 74 = .ok (.ifCond .lt 14, 3) := by decide +kernel
theorem dX4_event_77 : decode cX4_event 77 = .ok (.iload_n 2, 1) := by decide +kernel
theorem dX4_event_78 : decode cX4_event 78 = .ok (.aload_n 0, 1) := by decide +kernel
theorem dX4_event_79 : decode cX4_event 79 = .ok (.getfield 55, 3) := by decide +kernel
theorem dX4_event_82 : decode cX4_event 82 = .ok (.iload 4, 2) := by decide +kernel
theorem dX4_event_84 : decode cX4_event 84 = .ok (.isub, 1) := by decide +kernel
theorem dX4_event_85 : decode cX4_event 85 = .ok (.if_icmp .lt 9, 3) := by decide +kernel
theorem dX4_event_88 : decode cX4_event 88 = .ok (.aload_n 0, 1) := by decide +kernel
theorem dX4_event_89 : decode cX4_event 89 = .ok (.iconst 3, 1) := by decide +kernel
theorem dX4_event_90 : decode cX4_event 90 = .ok (.invokevirtual 62, 3) := by decide +kernel
theorem dX4_event_93 : decode cX4_event 93 = .ok (.ireturn, 1) := by decide +kernel
theorem dX4_event_94 : decode cX4_event 94 = .ok (.iload 4, 2) := by decide +kernel
theorem dX4_event_96 : decode cX4_event 96 = .ok (.iload_n 2, 1) := by decide +kernel
theorem dX4_event_97 : decode cX4_event 97 = .ok (.iadd, 1) := by decide +kernel
theorem dX4_event_98 : decode cX4_event 98 = .ok (.istore 5, 2) := by decide +kernel
theorem dX4_event_100 : decode cX4_event 100 = .ok (.iload_n 3, 1) := by decide +kernel
theorem dX4_event_101 : decode cX4_event 101 = .ok (.ifCond .ne 13, 3) := by decide +kernel
theorem dX4_event_104 : decode cX4_event 104 = .ok (.aload_n 0, 1) := by decide +kernel
theorem dX4_event_105 : decode cX4_event 105 = .ok (.getfield 7, 3) := by decide +kernel
theorem dX4_event_108 : decode cX4_event 108 = .ok (.iload 5, 2) := by decide +kernel
theorem dX4_event_110 : decode cX4_event 110 = .ok (.iaload, 1) := by decide +kernel
theorem dX4_event_111 : decode cX4_event 111 = .ok (.goto 33, 3) := by decide +kernel
theorem dX4_event_114 : decode cX4_event 114 = .ok (.iload_n 3, 1) := by decide +kernel
theorem dX4_event_115 : decode cX4_event 115 = .ok (.iconst 1, 1) := by decide +kernel
theorem dX4_event_116 : decode cX4_event 116 = .ok (.if_icmp .ne 13, 3) := by decide +kernel
theorem dX4_event_119 : decode cX4_event 119 = .ok (.aload_n 0, 1) := by decide +kernel
theorem dX4_event_120 : decode cX4_event 120 = .ok (.getfield 13, 3) := by decide +kernel
theorem dX4_event_123 : decode cX4_event 123 = .ok (.iload 5, 2) := by decide +kernel
theorem dX4_event_125 : decode cX4_event 125 = .ok (.iaload, 1) := by decide +kernel
theorem dX4_event_126 : decode cX4_event 126 = .ok (.goto 18, 3) := by decide +kernel
theorem dX4_event_129 : decode cX4_event 129 = .ok (.aload_n 0, 1) := by decide +kernel
theorem dX4_event_130 : decode cX4_event 130 = .ok (.getfield 23, 3) := by decide +kernel
theorem dX4_event_133 : decode cX4_event 133 = .ok (.iload 5, 2) := by decide +kernel
theorem dX4_event_135 : decode cX4_event 135 = .ok (.baload, 1) := by decide +kernel
theorem dX4_event_136 : decode cX4_event 136 = .ok (.ifCond .eq 7, 3) := by decide +kernel
theorem dX4_event_139 : decode cX4_event 139 = .ok (.iconst 1, 1) := by decide +kernel
theorem dX4_event_140 : decode cX4_event 140 = .ok (.goto 4, 3) := by decide +kernel
theorem dX4_event_143 : decode cX4_event 143 = .ok (.iconst 0, 1) := by decide +kernel
theorem dX4_event_144 : decode cX4_event 144 = .ok (.ireturn, 1) := by decide +kernel
theorem dX4_count_0 : decode cX4_count 0 = .ok (.aload_n 0, 1) := by decide +kernel
theorem dX4_count_1 : decode cX4_count 1 = .ok (.iconst 0, 1) := by decide +kernel
theorem dX4_count_2 : decode cX4_count 2 = .ok (.putfield 51, 3) := by decide +kernel
theorem dX4_count_5 : decode cX4_count 5 = .ok (.iload_n 1, 1) := by decide +kernel
theorem dX4_count_6 : decode cX4_count 6 = .ok (.tableswitch 113 0 6 #[42, 47, 52, 57, 62, 67, 72], 42) := by decide +kernel
theorem dX4_count_48 : decode cX4_count 48 = .ok (.aload_n 0, 1) := by decide +kernel
theorem dX4_count_49 : decode cX4_count 49 = .ok (.getfield 66, 3) := by decide +kernel
theorem dX4_count_52 : decode cX4_count 52 = .ok (.ireturn, 1) := by decide +kernel
theorem dX4_count_53 : decode cX4_count 53 = .ok (.aload_n 0, 1) := by decide +kernel
theorem dX4_count_54 : decode cX4_count 54 = .ok (.getfield 90, 3) := by decide +kernel
theorem dX4_count_57 : decode cX4_count 57 = .ok (.ireturn, 1) := by decide +kernel
theorem dX4_count_58 : decode cX4_count 58 = .ok (.aload_n 0, 1) := by decide +kernel
theorem dX4_count_59 : decode cX4_count 59 = .ok (.getfield 55, 3) := by decide +kernel
theorem dX4_count_62 : decode cX4_count 62 = .ok (.ireturn, 1) := by decide +kernel
theorem dX4_count_63 : decode cX4_count 63 = .ok (.aload_n 0, 1) := by decide +kernel
theorem dX4_count_64 : decode cX4_count 64 = .ok (.getfield 77, 3) := by decide +kernel
theorem dX4_count_67 : decode cX4_count 67 = .ok (.ireturn, 1) := by decide +kernel
theorem dX4_count_68 : decode cX4_count 68 = .ok (.aload_n 0, 1) := by decide +kernel
theorem dX4_count_69 : decode cX4_count 69 = .ok (.getfield 80, 3) := by decide +kernel
theorem dX4_count_72 : decode cX4_count 72 = .ok (.ireturn, 1) := by decide +kernel
theorem dX4_count_73 : decode cX4_count 73 = .ok (.aload_n 0, 1) := by decide +kernel
theorem dX4_count_74 : decode cX4_count 74 = .ok (.getfield 83, 3) := by decide +kernel
theorem dX4_count_77 : decode cX4_count 77 = .ok (.ireturn, 1) := by decide +kernel
theorem dX4_count_78 : decode cX4_count 78 = .ok (.iconst 0, 1) := by decide +kernel
theorem dX4_count_79 : decode cX4_count 79 = .ok (.istore_n 2, 1) := by decide +kernel
theorem dX4_count_80 : decode cX4_count 80 = .ok (.iconst 0, 1) := by decide +kernel
theorem dX4_count_81 : decode cX4_count 81 = .ok (.istore_n 3, 1) := by decide +kernel
theorem dX4_count_82 : decode cX4_count 82 = .ok (.iload_n 3, 1) := by decide +kernel
theorem dX4_count_83 : decode cX4_count 83 = .ok (.aload_n 0, 1) := by decide +kernel
theorem dX4_count_84 : decode cX4_count 84 = .ok (.getfield 55, 3) := by decide +kernel
theorem dX4_count_87 : decode cX4_count 87 = .ok (.if_icmp .ge 30, 3) := by decide +kernel
theorem dX4_count_90 : decode cX4_count 90 = .ok (.aload_n 0, 1) := by decide +kernel
theorem dX4_count_91 : decode cX4_count 91 = .ok (.getfield 16, 3) := by decide +kernel
theorem dX4_count_94 : decode cX4_count 94 = .ok (.iload_n 3, 1) := by decide +kernel
theorem dX4_count_95 : decode cX4_count 95 = .ok (.iaload, 1) := by decide +kernel
theorem dX4_count_96 : decode cX4_count 96 = .ok (.ifCond .ge 15, 3) := by decide +kernel
theorem dX4_count_99 : decode cX4_count 99 = .ok (.aload_n 0, 1) := by decide +kernel
theorem dX4_count_100 : decode cX4_count 100 = .ok (.getfield 23, 3) := by decide +kernel
theorem dX4_count_103 : decode cX4_count 103 = .ok (.iload_n 3, 1) := by decide +kernel
theorem dX4_count_104 : decode cX4_count 104 = .ok (.baload, 1) := by decide +kernel
theorem dX4_count_105 : decode cX4_count 105 = .ok (.ifCond .eq 6, 3) := by decide +kernel
theorem dX4_count_108 : decode cX4_count 108 = .ok (.iinc 2 1, 3) := by decide +kernel
theorem dX4_count_111 : decode cX4_count 111 = .ok (.iinc 3 1, 3) := by decide +kernel
theorem dX4_count_114 : decode cX4_count 114 = .ok (.goto (-32), 3) := by decide +kernel
theorem dX4_count_117 : decode cX4_count 117 = .ok (.iload_n 2, 1) := by decide +kernel
theorem dX4_count_118 : decode cX4_count 118 = .ok (.ireturn, 1) := by decide +kernel
theorem dX4_count_119 : decode cX4_count 119 = .ok (.iconst (-1), 1) := by decide +kernel
theorem dX4_count_120 : decode cX4_count 120 = .ok (.ireturn, 1) := by decide +kernel
end
section
theorem dL_put_0 : decode cL_put 0 = .ok (.aload 4, 2) := by decide +kernel
theorem dL_put_2 : decode cL_put 2 = .ok (.iconst 0, 1) := by decide +kernel
theorem dL_put_3 : decode cL_put 3 = .ok (.aload_n 0, 1) := by decide +kernel
theorem dL_put_4 : decode cL_put 4 = .ok (.iload_n 1, 1) := by decide +kernel
theorem dL_put_5 : decode cL_put 5 = .ok (.lload_n 2, 1) := by decide +kernel
theorem dL_put_6 : decode cL_put 6 = .ok (.invokevirtual 7, 3) := by decide +kernel
theorem dL_put_9 : decode cL_put 9 = .ok (.i2l, 1) := by decide +kernel
theorem dL_put_10 : decode cL_put 10 = .ok (.lastore, 1) := by decide +kernel
theorem dL_put_11 : decode cL_put 11 = .ok (.goto 7, 3) := by decide +kernel
theorem dL_put_14 : decode cL_put 14 = .ok (.astore 5, 2) := by decide +kernel
theorem dL_put_16 : decode cL_put 16 = .ok (.iconst 1, 1) := by decide +kernel
theorem dL_put_17 : decode cL_put 17 = .ok (.ireturn, 1) := by decide +kernel
theorem dL_put_18 : decode cL_put 18 = .ok (.iconst 0, 1) := by decide +kernel
theorem dL_put_19 : decode cL_put 19 = .ok (.ireturn, 1) := by decide +kernel
theorem dL_remove_0 : decode cL_remove 0 = .ok (.aload_n 2, 1) := by decide +kernel
theorem dL_remove_1 : decode cL_remove 1 = .ok (.iconst 0, 1) := by decide +kernel
theorem dL_remove_2 : decode cL_remove 2 = .ok (.aload_n 0, 1) := by decide +kernel
theorem dL_remove_3 : decode cL_remove 3 = .ok (.iload_n 1, 1) := by decide +kernel
theorem dL_remove_4 : decode cL_remove 4 = .ok (.invokevirtual 15, 3) := by decide +kernel
theorem dL_remove_7 : decode cL_remove 7 = .ok (.i2l, 1) := by decide +kernel
theorem dL_remove_8 : decode cL_remove 8 = .ok (.lastore, 1) := by decide +kernel
theorem dL_remove_9 : decode cL_remove 9 = .ok (.goto 6, 3) := by decide +kernel
theorem dL_remove_12 : decode cL_remove 12 = .ok (.astore_n 3, 1) := by decide +kernel
theorem dL_remove_13 : decode cL_remove 13 = .ok (.iconst 1, 1) := by decide +kernel
theorem dL_remove_14 : decode cL_remove 14 = .ok (.ireturn, 1) := by decide +kernel
theorem dL_remove_15 : decode cL_remove 15 = .ok (.iconst 0, 1) := by decide +kernel
theorem dL_remove_16 : decode cL_remove 16 = .ok (.ireturn, 1) := by decide +kernel
theorem dL_test_0 : decode cL_test 0 = .ok (.aload_n 0, 1) := by decide +kernel
theorem dL_test_1 : decode cL_test 1 = .ok (.iload_n 1, 1) := by decide +kernel
theorem dL_test_2 : decode cL_test 2 = .ok (.iload_n 2, 1) := by decide +kernel
theorem dL_test_3 : decode cL_test 3 = .ok (.iload_n 3, 1) := by decide +kernel
theorem dL_test_4 : decode cL_test 4 = .ok (.lload 4, 2) := by decide +kernel
theorem dL_test_6 : decode cL_test 6 = .ok (.invokevirtual 19, 3) := by decide +kernel
theorem dL_test_9 : decode cL_test 9 = .ok (.goto 11, 3) := by decide +kernel
theorem dL_test_12 : decode cL_test 12 = .ok (.astore 6, 2) := by decide +kernel
theorem dL_test_14 : decode cL_test 14 = .ok (.iconst 1, 1) := by decide +kernel
theorem dL_test_15 : decode cL_test 15 = .ok (.ireturn, 1) := by decide +kernel
theorem dL_test_16 : decode cL_test 16 = .ok (.astore 6, 2) := by decide +kernel
theorem dL_test_18 : decode cL_test 18 = .ok (.iconst 2, 1) := by decide +kernel
theorem dL_test_19 : decode cL_test 19 = .ok (.ireturn, 1) := by decide +kernel
theorem dL_test_20 : decode cL_test 20 = .ok (.iconst 0, 1) := by decide +kernel
theorem dL_test_21 : decode cL_test 21 = .ok (.ireturn, 1) := by decide +kernel
theorem dL_step_0 : decode cL_step 0 = .ok (.aload_n 0, 1) := by decide +kernel
theorem dL_step_1 : decode cL_step 1 = .ok (.iload_n 1, 1) := by decide +kernel
theorem dL_step_2 : decode cL_step 2 = .ok (.iload_n 2, 1) := by decide +kernel
theorem dL_step_3 : decode cL_step 3 = .ok (.iload_n 3, 1) := by decide +kernel
theorem dL_step_4 : decode cL_step 4 = .ok (.lload 4, 2) := by decide +kernel
theorem dL_step_6 : decode cL_step 6 = .ok (.invokevirtual 27, 3) := by decide +kernel
theorem dL_step_9 : decode cL_step 9 = .ok (.goto 7, 3) := by decide +kernel
theorem dL_step_12 : decode cL_step 12 = .ok (.astore 6, 2) := by decide +kernel
theorem dL_step_14 : decode cL_step 14 = .ok (.iconst 1, 1) := by decide +kernel
theorem dL_step_15 : decode cL_step 15 = .ok (.ireturn, 1) := by decide +kernel
theorem dL_step_16 : decode cL_step 16 = .ok (.iconst 0, 1) := by decide +kernel
theorem dL_step_17 : decode cL_step 17 = .ok (.ireturn, 1) := by decide +kernel
theorem dL_deal_0 : decode cL_deal 0 = .ok (.aload_n 1, 1) := by decide +kernel
theorem dL_deal_1 : decode cL_deal 1 = .ok (.iconst 0, 1) := by decide +kernel
theorem dL_deal_2 : decode cL_deal 2 = .ok (.aload_n 0, 1) := by decide +kernel
theorem dL_deal_3 : decode cL_deal 3 = .ok (.invokevirtual 31, 3) := by decide +kernel
theorem dL_deal_6 : decode cL_deal 6 = .ok (.i2l, 1) := by decide +kernel
theorem dL_deal_7 : decode cL_deal 7 = .ok (.lastore, 1) := by decide +kernel
theorem dL_deal_8 : decode cL_deal 8 = .ok (.goto 6, 3) := by decide +kernel
theorem dL_deal_11 : decode cL_deal 11 = .ok (.astore_n 2, 1) := by decide +kernel
theorem dL_deal_12 : decode cL_deal 12 = .ok (.iconst 1, 1) := by decide +kernel
theorem dL_deal_13 : decode cL_deal 13 = .ok (.ireturn, 1) := by decide +kernel
theorem dL_deal_14 : decode cL_deal 14 = .ok (.iconst 0, 1) := by decide +kernel
theorem dL_deal_15 : decode cL_deal 15 = .ok (.ireturn, 1) := by decide +kernel
theorem dL_get_0 : decode cL_get 0 = .ok (.aload_n 3, 1) := by decide +kernel
theorem dL_get_1 : decode cL_get 1 = .ok (.iconst 0, 1) := by decide +kernel
theorem dL_get_2 : decode cL_get 2 = .ok (.aload_n 0, 1) := by decide +kernel
theorem dL_get_3 : decode cL_get 3 = .ok (.iload_n 1, 1) := by decide +kernel
theorem dL_get_4 : decode cL_get 4 = .ok (.iload_n 2, 1) := by decide +kernel
theorem dL_get_5 : decode cL_get 5 = .ok (.invokevirtual 35, 3) := by decide +kernel
theorem dL_get_8 : decode cL_get 8 = .ok (.lastore, 1) := by decide +kernel
theorem dL_get_9 : decode cL_get 9 = .ok (.goto 15, 3) := by decide +kernel
theorem dL_get_12 : decode cL_get 12 = .ok (.astore 4, 2) := by decide +kernel
theorem dL_get_14 : decode cL_get 14 = .ok (.iconst 1, 1) := by decide +kernel
theorem dL_get_15 : decode cL_get 15 = .ok (.ireturn, 1) := by decide +kernel
theorem dL_get_16 : decode cL_get 16 = .ok (.astore 4, 2) := by decide +kernel
theorem dL_get_18 : decode cL_get 18 = .ok (.iconst 2, 1) := by decide +kernel
theorem dL_get_19 : decode cL_get 19 = .ok (.ireturn, 1) := by decide +kernel
theorem dL_get_20 : decode cL_get 20 = .ok (.astore 4, 2) := by decide +kernel
theorem dL_get_22 : decode cL_get 22 = .ok (.iconst 3, 1) := by decide +kernel
theorem dL_get_23 : decode cL_get 23 = .ok (.ireturn, 1) := by decide +kernel
theorem dL_get_24 : decode cL_get 24 = .ok (.iconst 0, 1) := by decide +kernel
theorem dL_get_25 : decode cL_get 25 = .ok (.ireturn, 1) := by decide +kernel
theorem dL_state_0 : decode cL_state 0 = .ok (.aload 4, 2) := by decide +kernel
theorem dL_state_2 : decode cL_state 2 = .ok (.iconst 0, 1) := by decide +kernel
theorem dL_state_3 : decode cL_state 3 = .ok (.aload_n 0, 1) := by decide +kernel
theorem dL_state_4 : decode cL_state 4 = .ok (.iload_n 1, 1) := by decide +kernel
theorem dL_state_5 : decode cL_state 5 = .ok (.iload_n 2, 1) := by decide +kernel
theorem dL_state_6 : decode cL_state 6 = .ok (.iload_n 3, 1) := by decide +kernel
theorem dL_state_7 : decode cL_state 7 = .ok (.invokevirtual 41, 3) := by decide +kernel
theorem dL_state_10 : decode cL_state 10 = .ok (.i2l, 1) := by decide +kernel
theorem dL_state_11 : decode cL_state 11 = .ok (.lastore, 1) := by decide +kernel
theorem dL_state_12 : decode cL_state 12 = .ok (.goto 11, 3) := by decide +kernel
theorem dL_state_15 : decode cL_state 15 = .ok (.astore 5, 2) := by decide +kernel
theorem dL_state_17 : decode cL_state 17 = .ok (.iconst 1, 1) := by decide +kernel
theorem dL_state_18 : decode cL_state 18 = .ok (.ireturn, 1) := by decide +kernel
theorem dL_state_19 : decode cL_state 19 = .ok (.astore 5, 2) := by decide +kernel
theorem dL_state_21 : decode cL_state 21 = .ok (.iconst 2, 1) := by decide +kernel
theorem dL_state_22 : decode cL_state 22 = .ok (.ireturn, 1) := by decide +kernel
theorem dL_state_23 : decode cL_state 23 = .ok (.iconst 0, 1) := by decide +kernel
theorem dL_state_24 : decode cL_state 24 = .ok (.ireturn, 1) := by decide +kernel
theorem dL_many_0 : decode cL_many 0 = .ok (.aload 4, 2) := by decide +kernel
theorem dL_many_2 : decode cL_many 2 = .ok (.iconst 0, 1) := by decide +kernel
theorem dL_many_3 : decode cL_many 3 = .ok (.aload_n 0, 1) := by decide +kernel
theorem dL_many_4 : decode cL_many 4 = .ok (.iload_n 1, 1) := by decide +kernel
theorem dL_many_5 : decode cL_many 5 = .ok (.iload_n 2, 1) := by decide +kernel
theorem dL_many_6 : decode cL_many 6 = .ok (.iload_n 3, 1) := by decide +kernel
theorem dL_many_7 : decode cL_many 7 = .ok (.invokevirtual 45, 3) := by decide +kernel
theorem dL_many_10 : decode cL_many 10 = .ok (.i2l, 1) := by decide +kernel
theorem dL_many_11 : decode cL_many 11 = .ok (.lastore, 1) := by decide +kernel
theorem dL_many_12 : decode cL_many 12 = .ok (.goto 11, 3) := by decide +kernel
theorem dL_many_15 : decode cL_many 15 = .ok (.astore 5, 2) := by decide +kernel
theorem dL_many_17 : decode cL_many 17 = .ok (.iconst 1, 1) := by decide +kernel
theorem dL_many_18 : decode cL_many 18 = .ok (.ireturn, 1) := by decide +kernel
theorem dL_many_19 : decode cL_many 19 = .ok (.astore 5, 2) := by decide +kernel
theorem dL_many_21 : decode cL_many 21 = .ok (.iconst 2, 1) := by decide +kernel
theorem dL_many_22 : decode cL_many 22 = .ok (.ireturn, 1) := by decide +kernel
theorem dL_many_23 : decode cL_many 23 = .ok (.iconst 0, 1) := by decide +kernel
theorem dL_many_24 : decode cL_many 24 = .ok (.ireturn, 1) := by decide +kernel
theorem dL_key_0 : decode cL_key 0 = .ok (.aload 5, 2) := by decide +kernel
theorem dL_key_2 : decode cL_key 2 = .ok (.iconst 0, 1) := by decide +kernel
theorem dL_key_3 : decode cL_key 3 = .ok (.aload_n 0, 1) := by decide +kernel
theorem dL_key_4 : decode cL_key 4 = .ok (.iload_n 1, 1) := by decide +kernel
theorem dL_key_5 : decode cL_key 5 = .ok (.iload_n 2, 1) := by decide +kernel
theorem dL_key_6 : decode cL_key 6 = .ok (.iload_n 3, 1) := by decide +kernel
theorem dL_key_7 : decode cL_key 7 = .ok (.iload 4, 2) := by decide +kernel
theorem dL_key_9 : decode cL_key 9 = .ok (.invokevirtual 48, 3) := by decide +kernel
theorem dL_key_12 : decode cL_key 12 = .ok (.i2l, 1) := by decide +kernel
theorem dL_key_13 : decode cL_key 13 = .ok (.lastore, 1) := by decide +kernel
theorem dL_key_14 : decode cL_key 14 = .ok (.goto 15, 3) := by decide +kernel
theorem dL_key_17 : decode cL_key 17 = .ok (.astore 6, 2) := by decide +kernel
theorem dL_key_19 : decode cL_key 19 = .ok (.iconst 1, 1) := by decide +kernel
theorem dL_key_20 : decode cL_key 20 = .ok (.ireturn, 1) := by decide +kernel
theorem dL_key_21 : decode cL_key 21 = .ok (.astore 6, 2) := by decide +kernel
theorem dL_key_23 : decode cL_key 23 = .ok (.iconst 2, 1) := by decide +kernel
theorem dL_key_24 : decode cL_key 24 = .ok (.ireturn, 1) := by decide +kernel
theorem dL_key_25 : decode cL_key 25 = .ok (.astore 6, 2) := by decide +kernel
theorem dL_key_27 : decode cL_key 27 = .ok (.iconst 3, 1) := by decide +kernel
theorem dL_key_28 : decode cL_key 28 = .ok (.ireturn, 1) := by decide +kernel
theorem dL_key_29 : decode cL_key 29 = .ok (.iconst 0, 1) := by decide +kernel
theorem dL_key_30 : decode cL_key 30 = .ok (.ireturn, 1) := by decide +kernel
theorem dL_compact_0 : decode cL_compact 0 = .ok (.aload_n 0, 1) := by decide +kernel
theorem dL_compact_1 : decode cL_compact 1 = .ok (.iload_n 1, 1) := by decide +kernel
theorem dL_compact_2 : decode cL_compact 2 = .ok (.invokevirtual 52, 3) := by decide +kernel
theorem dL_compact_5 : decode cL_compact 5 = .ok (.goto 9, 3) := by decide +kernel
theorem dL_compact_8 : decode cL_compact 8 = .ok (.astore_n 2, 1) := by decide +kernel
theorem dL_compact_9 : decode cL_compact 9 = .ok (.iconst 1, 1) := by decide +kernel
theorem dL_compact_10 : decode cL_compact 10 = .ok (.ireturn, 1) := by decide +kernel
theorem dL_compact_11 : decode cL_compact 11 = .ok (.astore_n 2, 1) := by decide +kernel
theorem dL_compact_12 : decode cL_compact 12 = .ok (.iconst 2, 1) := by decide +kernel
theorem dL_compact_13 : decode cL_compact 13 = .ok (.ireturn, 1) := by decide +kernel
theorem dL_compact_14 : decode cL_compact 14 = .ok (.iconst 0, 1) := by decide +kernel
theorem dL_compact_15 : decode cL_compact 15 = .ok (.ireturn, 1) := by decide +kernel
theorem dL_event_0 : decode cL_event 0 = .ok (.aload 4, 2) := by decide +kernel
theorem dL_event_2 : decode cL_event 2 = .ok (.iconst 0, 1) := by decide +kernel
theorem dL_event_3 : decode cL_event 3 = .ok (.aload_n 0, 1) := by decide +kernel
theorem dL_event_4 : decode cL_event 4 = .ok (.iload_n 1, 1) := by decide +kernel
theorem dL_event_5 : decode cL_event 5 = .ok (.iload_n 2, 1) := by decide +kernel
theorem dL_event_6 : decode cL_event 6 = .ok (.iload_n 3, 1) := by decide +kernel
theorem dL_event_7 : decode cL_event 7 = .ok (.invokevirtual 56, 3) := by decide +kernel
theorem dL_event_10 : decode cL_event 10 = .ok (.i2l, 1) := by decide +kernel
theorem dL_event_11 : decode cL_event 11 = .ok (.lastore, 1) := by decide +kernel
theorem dL_event_12 : decode cL_event 12 = .ok (.goto 15, 3) := by decide +kernel
theorem dL_event_15 : decode cL_event 15 = .ok (.astore 5, 2) := by decide +kernel
theorem dL_event_17 : decode cL_event 17 = .ok (.iconst 1, 1) := by decide +kernel
theorem dL_event_18 : decode cL_event 18 = .ok (.ireturn, 1) := by decide +kernel
theorem dL_event_19 : decode cL_event 19 = .ok (.astore 5, 2) := by decide +kernel
theorem dL_event_21 : decode cL_event 21 = .ok (.iconst 2, 1) := by decide +kernel
theorem dL_event_22 : decode cL_event 22 = .ok (.ireturn, 1) := by decide +kernel
theorem dL_event_23 : decode cL_event 23 = .ok (.astore 5, 2) := by decide +kernel
theorem dL_event_25 : decode cL_event 25 = .ok (.iconst 3, 1) := by decide +kernel
theorem dL_event_26 : decode cL_event 26 = .ok (.ireturn, 1) := by decide +kernel
theorem dL_event_27 : decode cL_event 27 = .ok (.iconst 0, 1) := by decide +kernel
theorem dL_event_28 : decode cL_event 28 = .ok (.ireturn, 1) := by decide +kernel
end
section
theorem dL_law_0 : decode cL_law 0 = .ok (.new 8, 3) := by decide +kernel
theorem dL_law_3 : decode cL_law 3 = .ok (.dup, 1) := by decide +kernel
theorem dL_law_4 : decode cL_law 4 = .ok (.invokespecial 59, 3) := by decide +kernel
theorem dL_law_7 : decode cL_law 7 = .ok (.astore_n 1, 1) := by decide +kernel
theorem dL_law_8 : decode cL_law 8 = .ok (.new 60, 3) := by decide +kernel
theorem dL_law_11 : decode cL_law 11 = .ok (.dup, 1) := by decide +kernel
theorem dL_law_12 : decode cL_law 12 = .ok (.invokespecial 62, 3) := by decide +kernel
theorem dL_law_15 : decode cL_law 15 = .ok (.astore_n 2, 1) := by decide +kernel
theorem dL_law_16 : decode cL_law 16 = .ok (.iconst 1, 1) := by decide +kernel
theorem dL_law_17 : decode cL_law 17 = .ok (.newarray .long, 2) := by decide +kernel
theorem dL_law_19 : decode cL_law 19 = .ok (.astore_n 3, 1) := by decide +kernel
theorem dL_law_20 : decode cL_law 20 = .ok (.iconst 0, 1) := by decide +kernel
theorem dL_law_21 : decode cL_law 21 = .ok (.istore 4, 2) := by decide +kernel
theorem dL_law_23 : decode cL_law 23 = .ok (.iload 4, 2) := by decide +kernel
theorem dL_law_25 : decode cL_law 25 = .ok (.aload_n 0, 1) := by decide +kernel
theorem dL_law_26 : decode cL_law 26 = .ok (.arraylength, 1) := by decide +kernel
theorem dL_law_27 : decode cL_law 27 = .ok (.bipush 6, 2) := by decide +kernel
theorem dL_law_29 : decode cL_law 29 = .ok (.isub, 1) := by decide +kernel
theorem dL_law_30 : decode cL_law 30 = .ok (.if_icmp .gt 980, 3) := by decide +kernel
theorem dL_law_33 : decode cL_law 33 = .ok (.aload_n 0, 1) := by decide +kernel
theorem dL_law_34 : decode cL_law 34 = .ok (.iload 4, 2) := by decide +kernel
theorem dL_law_36 : decode cL_law 36 = .ok (.iaload, 1) := by decide +kernel
theorem dL_law_37 : decode cL_law 37 = .ok (.bipush 15, 2) := by decide +kernel
theorem dL_law_39 : decode cL_law 39 = .ok (.iand, 1) := by decide +kernel
theorem dL_law_40 : decode cL_law 40 = .ok (.tableswitch 964 0 11 #[64, 164, 220, 324, 460, 504, 571, 651, 731, 823, 859, 939], 64) := by decide +kernel
theorem dL_law_104 : decode cL_law 104 = .ok (.aload_n 1, 1) := by decide +kernel
theorem dL_law_105 : decode cL_law 105 = .ok (.aload_n 0, 1) := by decide +kernel
theorem dL_law_106 : decode cL_law 106 = .ok (.iload 4, 2) := by decide +kernel
theorem dL_law_108 : decode cL_law 108 = .ok (.iconst 1, 1) := by decide +kernel
theorem dL_law_109 : decode cL_law 109 = .ok (.iadd, 1) := by decide +kernel
theorem dL_law_110 : decode cL_law 110 = .ok (.iaload, 1) := by decide +kernel
theorem dL_law_111 : decode cL_law 111 = .ok (.aload_n 0, 1) := by decide +kernel
theorem dL_law_112 : decode cL_law 112 = .ok (.iload 4, 2) := by decide +kernel
theorem dL_law_114 : decode cL_law 114 = .ok (.iconst 2, 1) := by decide +kernel
theorem dL_law_115 : decode cL_law 115 = .ok (.iadd, 1) := by decide +kernel
theorem dL_law_116 : decode cL_law 116 = .ok (.iaload, 1) := by decide +kernel
theorem dL_law_117 : decode cL_law 117 = .ok (.i2l, 1) := by decide +kernel
theorem dL_law_118 : decode cL_law 118 = .ok (.bipush 32, 2) := by decide +kernel
theorem dL_law_120 : decode cL_law 120 = .ok (.lshl, 1) := by decide +kernel
theorem dL_law_121 : decode cL_law 121 = .ok (.aload_n 0, 1) := by decide +kernel
theorem dL_law_122 : decode cL_law 122 = .ok (.iload 4, 2) := by decide +kernel
theorem dL_law_124 : decode cL_law 124 = .ok (.iconst 3, 1) := by decide +kernel
theorem dL_law_125 : decode cL_law 125 = .ok (.iadd, 1) := by decide +kernel
theorem dL_law_126 : decode cL_law 126 = .ok (.iaload, 1) := by decide +kernel
theorem dL_law_127 : decode cL_law 127 = .ok (.i2l, 1) := by decide +kernel
theorem dL_law_128 : decode cL_law 128 = .ok (.ldc2_w 63, 3) := by decide +kernel
theorem dL_law_131 : decode cL_law 131 = .ok (.land, 1) := by decide +kernel
theorem dL_law_132 : decode cL_law 132 = .ok (.lor, 1) := by decide +kernel
theorem dL_law_133 : decode cL_law 133 = .ok (.aload_n 3, 1) := by decide +kernel
theorem dL_law_134 : decode cL_law 134 = .ok (.invokestatic 65, 3) := by decide +kernel
theorem dL_law_137 : decode cL_law 137 = .ok (.istore 5, 2) := by decide +kernel
theorem dL_law_139 : decode cL_law 139 = .ok (.aload_n 2, 1) := by decide +kernel
theorem dL_law_140 : decode cL_law 140 = .ok (.aload_n 0, 1) := by decide +kernel
theorem dL_law_141 : decode cL_law 141 = .ok (.iload 4, 2) := by decide +kernel
theorem dL_law_143 : decode cL_law 143 = .ok (.iconst 1, 1) := by decide +kernel
theorem dL_law_144 : decode cL_law 144 = .ok (.iadd, 1) := by decide +kernel
theorem dL_law_145 : decode cL_law 145 = .ok (.iaload, 1) := by decide +kernel
theorem dL_law_146 : decode cL_law 146 = .ok (.aload_n 0, 1) := by decide +kernel
theorem dL_law_147 : decode cL_law 147 = .ok (.iload 4, 2) := by decide +kernel
theorem dL_law_149 : decode cL_law 149 = .ok (.iconst 2, 1) := by decide +kernel
theorem dL_law_150 : decode cL_law 150 = .ok (.iadd, 1) := by decide +kernel
theorem dL_law_151 : decode cL_law 151 = .ok (.iaload, 1) := by decide +kernel
theorem dL_law_152 : decode cL_law 152 = .ok (.i2l, 1) := by decide +kernel
theorem dL_law_153 : decode cL_law 153 = .ok (.bipush 32, 2) := by decide +kernel
theorem dL_law_155 : decode cL_law 155 = .ok (.lshl, 1) := by decide +kernel
theorem dL_law_156 : decode cL_law 156 = .ok (.aload_n 0, 1) := by decide +kernel
theorem dL_law_157 : decode cL_law 157 = .ok (.iload 4, 2) := by decide +kernel
theorem dL_law_159 : decode cL_law 159 = .ok (.iconst 3, 1) := by decide +kernel
theorem dL_law_160 : decode cL_law 160 = .ok (.iadd, 1) := by decide +kernel
theorem dL_law_161 : decode cL_law 161 = .ok (.iaload, 1) := by decide +kernel
theorem dL_law_162 : decode cL_law 162 = .ok (.i2l, 1) := by decide +kernel
theorem dL_law_163 : decode cL_law 163 = .ok (.ldc2_w 63, 3) := by decide +kernel
theorem dL_law_166 : decode cL_law 166 = .ok (.land, 1) := by decide +kernel
theorem dL_law_167 : decode cL_law 167 = .ok (.lor, 1) := by decide +kernel
theorem dL_law_168 : decode cL_law 168 = .ok (.invokevirtual 70, 3) := by decide +kernel
theorem dL_law_171 : decode cL_law 171 = .ok (.istore 6, 2) := by decide +kernel
theorem dL_law_173 : decode cL_law 173 = .ok (.aload_n 2, 1) := by decide +kernel
theorem dL_law_174 : decode cL_law 174 = .ok (.invokevirtual 71, 3) := by decide +kernel
theorem dL_law_177 : decode cL_law 177 = .ok (.iload 5, 2) := by decide +kernel
theorem dL_law_179 : decode cL_law 179 = .ok (.if_icmp .eq 5, 3) := by decide +kernel
theorem dL_law_182 : decode cL_law 182 = .ok (.iconst 0, 1) := by decide +kernel
theorem dL_law_183 : decode cL_law 183 = .ok (.ireturn, 1) := by decide +kernel
theorem dL_law_184 : decode cL_law 184 = .ok (.iload 5, 2) := by decide +kernel
theorem dL_law_186 : decode cL_law 186 = .ok (.ifCond .ne 15, 3) := by decide +kernel
theorem dL_law_189 : decode cL_law 189 = .ok (.aload_n 3, 1) := by decide +kernel
theorem dL_law_190 : decode cL_law 190 = .ok (.iconst 0, 1) := by decide +kernel
theorem dL_law_191 : decode cL_law 191 = .ok (.laload, 1) := by decide +kernel
theorem dL_law_192 : decode cL_law 192 = .ok (.iload 6, 2) := by decide +kernel
theorem dL_law_194 : decode cL_law 194 = .ok (.i2l, 1) := by decide +kernel
theorem dL_law_195 : decode cL_law 195 = .ok (.lcmp, 1) := by decide +kernel
theorem dL_law_196 : decode cL_law 196 = .ok (.ifCond .eq 5, 3) := by decide +kernel
theorem dL_law_199 : decode cL_law 199 = .ok (.iconst 0, 1) := by decide +kernel
theorem dL_law_200 : decode cL_law 200 = .ok (.ireturn, 1) := by decide +kernel
theorem dL_law_201 : decode cL_law 201 = .ok (.goto 803, 3) := by decide +kernel
theorem dL_law_204 : decode cL_law 204 = .ok (.aload_n 1, 1) := by decide +kernel
theorem dL_law_205 : decode cL_law 205 = .ok (.aload_n 0, 1) := by decide +kernel
theorem dL_law_206 : decode cL_law 206 = .ok (.iload 4, 2) := by decide +kernel
theorem dL_law_208 : decode cL_law 208 = .ok (.iconst 1, 1) := by decide +kernel
theorem dL_law_209 : decode cL_law 209 = .ok (.iadd, 1) := by decide +kernel
theorem dL_law_210 : decode cL_law 210 = .ok (.iaload, 1) := by decide +kernel
theorem dL_law_211 : decode cL_law 211 = .ok (.aload_n 3, 1) := by decide +kernel
theorem dL_law_212 : decode cL_law 212 = .ok (.invokestatic 74, 3) := by decide +kernel
theorem dL_law_215 : decode cL_law 215 = .ok (.istore 5, 2) := by decide +kernel
theorem dL_law_217 : decode cL_law 217 = .ok (.aload_n 2, 1) := by decide +kernel
theorem dL_law_218 : decode cL_law 218 = .ok (.aload_n 0, 1) := by decide +kernel
theorem dL_law_219 : decode cL_law 219 = .ok (.iload 4, 2) := by decide +kernel
theorem dL_law_221 : decode cL_law 221 = .ok (.iconst 1, 1) := by decide +kernel
theorem dL_law_222 : decode cL_law 222 = .ok (.iadd, 1) := by decide +kernel
theorem dL_law_223 : decode cL_law 223 = .ok (.iaload, 1) := by decide +kernel
theorem dL_law_224 : decode cL_law 224 = .ok (.invokevirtual 77, 3) := by decide +kernel
theorem dL_law_227 : decode cL_law 227 = .ok (.istore 6, 2) := by decide +kernel
theorem dL_law_229 : decode cL_law 229 = .ok (.aload_n 2, 1) := by decide +kernel
theorem dL_law_230 : decode cL_law 230 = .ok (.invokevirtual 71, 3) := by decide +kernel
theorem dL_law_233 : decode cL_law 233 = .ok (.iload 5, 2) := by decide +kernel
theorem dL_law_235 : decode cL_law 235 = .ok (.if_icmp .eq 5, 3) := by decide +kernel
theorem dL_law_238 : decode cL_law 238 = .ok (.iconst 0, 1) := by decide +kernel
theorem dL_law_239 : decode cL_law 239 = .ok (.ireturn, 1) := by decide +kernel
theorem dL_law_240 : decode cL_law 240 = .ok (.iload 5, 2) := by decide +kernel
theorem dL_law_242 : decode cL_law 242 = .ok (.ifCond .ne 15, 3) := by decide +kernel
theorem dL_law_245 : decode cL_law 245 = .ok (.aload_n 3, 1) := by decide +kernel
theorem dL_law_246 : decode cL_law 246 = .ok (.iconst 0, 1) := by decide +kernel
theorem dL_law_247 : decode cL_law 247 = .ok (.laload, 1) := by decide +kernel
theorem dL_law_248 : decode cL_law 248 = .ok (.iload 6, 2) := by decide +kernel
theorem dL_law_250 : decode cL_law 250 = .ok (.i2l, 1) := by decide +kernel
theorem dL_law_251 : decode cL_law 251 = .ok (.lcmp, 1) := by decide +kernel
theorem dL_law_252 : decode cL_law 252 = .ok (.ifCond .eq 5, 3) := by decide +kernel
theorem dL_law_255 : decode cL_law 255 = .ok (.iconst 0, 1) := by decide +kernel
theorem dL_law_256 : decode cL_law 256 = .ok (.ireturn, 1) := by decide +kernel
theorem dL_law_257 : decode cL_law 257 = .ok (.goto 747, 3) := by decide +kernel
theorem dL_law_260 : decode cL_law 260 = .ok (.aload_n 1, 1) := by decide +kernel
theorem dL_law_261 : decode cL_law 261 = .ok (.aload_n 0, 1) := by decide +kernel
theorem dL_law_262 : decode cL_law 262 = .ok (.iload 4, 2) := by decide +kernel
theorem dL_law_264 : decode cL_law 264 = .ok (.iconst 1, 1) := by decide +kernel
theorem dL_law_265 : decode cL_law 265 = .ok (.iadd, 1) := by decide +kernel
theorem dL_law_266 : decode cL_law 266 = .ok (.iaload, 1) := by decide +kernel
theorem dL_law_267 : decode cL_law 267 = .ok (.aload_n 0, 1) := by decide +kernel
theorem dL_law_268 : decode cL_law 268 = .ok (.iload 4, 2) := by decide +kernel
theorem dL_law_270 : decode cL_law 270 = .ok (.iconst 2, 1) := by decide +kernel
theorem dL_law_271 : decode cL_law 271 = .ok (.iadd, 1) := by decide +kernel
theorem dL_law_272 : decode cL_law 272 = .ok (.iaload, 1) := by decide +kernel
theorem dL_law_273 : decode cL_law 273 = .ok (.aload_n 0, 1) := by decide +kernel
theorem dL_law_274 : decode cL_law 274 = .ok (.iload 4, 2) := by decide +kernel
theorem dL_law_276 : decode cL_law 276 = .ok (.iconst 3, 1) := by decide +kernel
theorem dL_law_277 : decode cL_law 277 = .ok (.iadd, 1) := by decide +kernel
theorem dL_law_278 : decode cL_law 278 = .ok (.iaload, 1) := by decide +kernel
theorem dL_law_279 : decode cL_law 279 = .ok (.aload_n 0, 1) := by decide +kernel
theorem dL_law_280 : decode cL_law 280 = .ok (.iload 4, 2) := by decide +kernel
theorem dL_law_282 : decode cL_law 282 = .ok (.iconst 4, 1) := by decide +kernel
theorem dL_law_283 : decode cL_law 283 = .ok (.iadd, 1) := by decide +kernel
theorem dL_law_284 : decode cL_law 284 = .ok (.iaload, 1) := by decide +kernel
theorem dL_law_285 : decode cL_law 285 = .ok (.i2l, 1) := by decide +kernel
theorem dL_law_286 : decode cL_law 286 = .ok (.bipush 32, 2) := by decide +kernel
theorem dL_law_288 : decode cL_law 288 = .ok (.lshl, 1) := by decide +kernel
theorem dL_law_289 : decode cL_law 289 = .ok (.aload_n 0, 1) := by decide +kernel
theorem dL_law_290 : decode cL_law 290 = .ok (.iload 4, 2) := by decide +kernel
theorem dL_law_292 : decode cL_law 292 = .ok (.iconst 5, 1) := by decide +kernel
theorem dL_law_293 : decode cL_law 293 = .ok (.iadd, 1) := by decide +kernel
theorem dL_law_294 : decode cL_law 294 = .ok (.iaload, 1) := by decide +kernel
theorem dL_law_295 : decode cL_law 295 = .ok (.i2l, 1) := by decide +kernel
theorem dL_law_296 : decode cL_law 296 = .ok (.ldc2_w 63, 3) := by decide +kernel
theorem dL_law_299 : decode cL_law 299 = .ok (.land, 1) := by decide +kernel
theorem dL_law_300 : decode cL_law 300 = .ok (.lor, 1) := by decide +kernel
theorem dL_law_301 : decode cL_law 301 = .ok (.invokestatic 78, 3) := by decide +kernel
theorem dL_law_304 : decode cL_law 304 = .ok (.istore 5, 2) := by decide +kernel
theorem dL_law_306 : decode cL_law 306 = .ok (.aload_n 2, 1) := by decide +kernel
theorem dL_law_307 : decode cL_law 307 = .ok (.aload_n 0, 1) := by decide +kernel
theorem dL_law_308 : decode cL_law 308 = .ok (.iload 4, 2) := by decide +kernel
theorem dL_law_310 : decode cL_law 310 = .ok (.iconst 1, 1) := by decide +kernel
theorem dL_law_311 : decode cL_law 311 = .ok (.iadd, 1) := by decide +kernel
theorem dL_law_312 : decode cL_law 312 = .ok (.iaload, 1) := by decide +kernel
theorem dL_law_313 : decode cL_law 313 = .ok (.aload_n 0, 1) := by decide +kernel
theorem dL_law_314 : decode cL_law 314 = .ok (.iload 4, 2) := by decide +kernel
theorem dL_law_316 : decode cL_law 316 = .ok (.iconst 2, 1) := by decide +kernel
theorem dL_law_317 : decode cL_law 317 = .ok (.iadd, 1) := by decide +kernel
theorem dL_law_318 : decode cL_law 318 = .ok (.iaload, 1) := by decide +kernel
theorem dL_law_319 : decode cL_law 319 = .ok (.aload_n 0, 1) := by decide +kernel
theorem dL_law_320 : decode cL_law 320 = .ok (.iload 4, 2) := by decide +kernel
theorem dL_law_322 : decode cL_law 322 = .ok (.iconst 3, 1) := by decide +kernel
theorem dL_law_323 : decode cL_law 323 = .ok (.iadd, 1) := by decide +kernel
theorem dL_law_324 : decode cL_law 324 = .ok (.iaload, 1) := by decide +kernel
theorem dL_law_325 : decode cL_law 325 = .ok (.aload_n 0, 1) := by decide +kernel
theorem dL_law_326 : decode cL_law 326 = .ok (.iload 4, 2) := by decide +kernel
theorem dL_law_328 : decode cL_law 328 = .ok (.iconst 4, 1) := by decide +kernel
theorem dL_law_329 : decode cL_law 329 = .ok (.iadd, 1) := by decide +kernel
theorem dL_law_330 : decode cL_law 330 = .ok (.iaload, 1) := by decide +kernel
theorem dL_law_331 : decode cL_law 331 = .ok (.i2l, 1) := by decide +kernel
theorem dL_law_332 : decode cL_law 332 = .ok (.bipush 32, 2) := by decide +kernel
theorem dL_law_334 : decode cL_law 334 = .ok (.lshl, 1) := by decide +kernel
theorem dL_law_335 : decode cL_law 335 = .ok (.aload_n 0, 1) := by decide +kernel
theorem dL_law_336 : decode cL_law 336 = .ok (.iload 4, 2) := by decide +kernel
theorem dL_law_338 : decode cL_law 338 = .ok (.iconst 5, 1) := by decide +kernel
theorem dL_law_339 : decode cL_law 339 = .ok (.iadd, 1) := by decide +kernel
theorem dL_law_340 : decode cL_law 340 = .ok (.iaload, 1) := by decide +kernel
theorem dL_law_341 : decode cL_law 341 = .ok (.i2l, 1) := by decide +kernel
theorem dL_law_342 : decode cL_law 342 = .ok (.ldc2_w 63, 3) := by decide +kernel
theorem dL_law_345 : decode cL_law 345 = .ok (.land, 1) := by decide +kernel
theorem dL_law_346 : decode cL_law 346 = .ok (.lor, 1) := by decide +kernel
theorem dL_law_347 : decode cL_law 347 = .ok (.invokevirtual 81, 3) := by decide +kernel
theorem dL_law_350 : decode cL_law 350 = .ok (.aload_n 2, 1) := by decide +kernel
theorem dL_law_351 : decode cL_law 351 = .ok (.invokevirtual 71, 3) := by decide +kernel
theorem dL_law_354 : decode cL_law 354 = .ok (.iload 5, 2) := by decide +kernel
theorem dL_law_356 : decode cL_law 356 = .ok (.if_icmp .eq 5, 3) := by decide +kernel
theorem dL_law_359 : decode cL_law 359 = .ok (.iconst 0, 1) := by decide +kernel
theorem dL_law_360 : decode cL_law 360 = .ok (.ireturn, 1) := by decide +kernel
theorem dL_law_361 : decode cL_law 361 = .ok (.goto 643, 3) := by decide +kernel
theorem dL_law_364 : decode cL_law 364 = .ok (.aload_n 1, 1) := by decide +kernel
theorem dL_law_365 : decode cL_law 365 = .ok (.aload_n 0, 1) := by decide +kernel
theorem dL_law_366 : decode cL_law 366 = .ok (.iload 4, 2) := by decide +kernel
theorem dL_law_368 : decode cL_law 368 = .ok (.iconst 1, 1) := by decide +kernel
theorem dL_law_369 : decode cL_law 369 = .ok (.iadd, 1) := by decide +kernel
theorem dL_law_370 : decode cL_law 370 = .ok (.iaload, 1) := by decide +kernel
theorem dL_law_371 : decode cL_law 371 = .ok (.ifCond .eq 7, 3) := by decide +kernel
theorem dL_law_374 : decode cL_law 374 = .ok (.iconst 1, 1) := by decide +kernel
theorem dL_law_375 : decode cL_law 375 = .ok (.goto 4, 3) := by decide +kernel
theorem dL_law_378 : decode cL_law 378 = .ok (.iconst 0, 1) := by decide +kernel
theorem dL_law_379 : decode cL_law 379 = .ok (.aload_n 0, 1) := by decide +kernel
theorem dL_law_380 : decode cL_law 380 = .ok (.iload 4, 2) := by decide +kernel
theorem dL_law_382 : decode cL_law 382 = .ok (.iconst 2, 1) := by decide +kernel
theorem dL_law_383 : decode cL_law 383 = .ok (.iadd, 1) := by decide +kernel
theorem dL_law_384 : decode cL_law 384 = .ok (.iaload, 1) := by decide +kernel
theorem dL_law_385 : decode cL_law 385 = .ok (.aload_n 0, 1) := by decide +kernel
theorem dL_law_386 : decode cL_law 386 = .ok (.iload 4, 2) := by decide +kernel
theorem dL_law_388 : decode cL_law 388 = .ok (.iconst 3, 1) := by decide +kernel
theorem dL_law_389 : decode cL_law 389 = .ok (.iadd, 1) := by decide +kernel
theorem dL_law_390 : decode cL_law 390 = .ok (.iaload, 1) := by decide +kernel
theorem dL_law_391 : decode cL_law 391 = .ok (.ifCond .eq 7, 3) := by decide +kernel
theorem dL_law_394 : decode cL_law 394 = .ok (.iconst 1, 1) := by decide +kernel
theorem dL_law_395 : decode cL_law 395 = .ok (.goto 4, 3) := by decide +kernel
theorem dL_law_398 : decode cL_law 398 = .ok (.iconst 0, 1) := by decide +kernel
theorem dL_law_399 : decode cL_law 399 = .ok (.aload_n 0, 1) := by decide +kernel
theorem dL_law_400 : decode cL_law 400 = .ok (.iload 4, 2) := by decide +kernel
theorem dL_law_402 : decode cL_law 402 = .ok (.iconst 4, 1) := by decide +kernel
theorem dL_law_403 : decode cL_law 403 = .ok (.iadd, 1) := by decide +kernel
theorem dL_law_404 : decode cL_law 404 = .ok (.iaload, 1) := by decide +kernel
theorem dL_law_405 : decode cL_law 405 = .ok (.i2l, 1) := by decide +kernel
theorem dL_law_406 : decode cL_law 406 = .ok (.bipush 32, 2) := by decide +kernel
theorem dL_law_408 : decode cL_law 408 = .ok (.lshl, 1) := by decide +kernel
theorem dL_law_409 : decode cL_law 409 = .ok (.aload_n 0, 1) := by decide +kernel
theorem dL_law_410 : decode cL_law 410 = .ok (.iload 4, 2) := by decide +kernel
theorem dL_law_412 : decode cL_law 412 = .ok (.iconst 5, 1) := by decide +kernel
theorem dL_law_413 : decode cL_law 413 = .ok (.iadd, 1) := by decide +kernel
theorem dL_law_414 : decode cL_law 414 = .ok (.iaload, 1) := by decide +kernel
theorem dL_law_415 : decode cL_law 415 = .ok (.i2l, 1) := by decide +kernel
theorem dL_law_416 : decode cL_law 416 = .ok (.ldc2_w 63, 3) := by decide +kernel
theorem dL_law_419 : decode cL_law 419 = .ok (.land, 1) := by decide +kernel
theorem dL_law_420 : decode cL_law 420 = .ok (.lor, 1) := by decide +kernel
theorem dL_law_421 : decode cL_law 421 = .ok (.invokestatic 82, 3) := by decide +kernel
theorem dL_law_424 : decode cL_law 424 = .ok (.istore 5, 2) := by decide +kernel
theorem dL_law_426 : decode cL_law 426 = .ok (.aload_n 2, 1) := by decide +kernel
theorem dL_law_427 : decode cL_law 427 = .ok (.aload_n 0, 1) := by decide +kernel
theorem dL_law_428 : decode cL_law 428 = .ok (.iload 4, 2) := by decide +kernel
theorem dL_law_430 : decode cL_law 430 = .ok (.iconst 1, 1) := by decide +kernel
theorem dL_law_431 : decode cL_law 431 = .ok (.iadd, 1) := by decide +kernel
theorem dL_law_432 : decode cL_law 432 = .ok (.iaload, 1) := by decide +kernel
theorem dL_law_433 : decode cL_law 433 = .ok (.ifCond .eq 7, 3) := by decide +kernel
theorem dL_law_436 : decode cL_law 436 = .ok (.iconst 1, 1) := by decide +kernel
theorem dL_law_437 : decode cL_law 437 = .ok (.goto 4, 3) := by decide +kernel
theorem dL_law_440 : decode cL_law 440 = .ok (.iconst 0, 1) := by decide +kernel
theorem dL_law_441 : decode cL_law 441 = .ok (.aload_n 0, 1) := by decide +kernel
theorem dL_law_442 : decode cL_law 442 = .ok (.iload 4, 2) := by decide +kernel
theorem dL_law_444 : decode cL_law 444 = .ok (.iconst 2, 1) := by decide +kernel
theorem dL_law_445 : decode cL_law 445 = .ok (.iadd, 1) := by decide +kernel
theorem dL_law_446 : decode cL_law 446 = .ok (.iaload, 1) := by decide +kernel
theorem dL_law_447 : decode cL_law 447 = .ok (.aload_n 0, 1) := by decide +kernel
theorem dL_law_448 : decode cL_law 448 = .ok (.iload 4, 2) := by decide +kernel
theorem dL_law_450 : decode cL_law 450 = .ok (.iconst 3, 1) := by decide +kernel
theorem dL_law_451 : decode cL_law 451 = .ok (.iadd, 1) := by decide +kernel
theorem dL_law_452 : decode cL_law 452 = .ok (.iaload, 1) := by decide +kernel
theorem dL_law_453 : decode cL_law 453 = .ok (.ifCond .eq 7, 3) := by decide +kernel
theorem dL_law_456 : decode cL_law 456 = .ok (.iconst 1, 1) := by decide +kernel
theorem dL_law_457 : decode cL_law 457 = .ok (.goto 4, 3) := by decide +kernel
theorem dL_law_460 : decode cL_law 460 = .ok (.iconst 0, 1) := by decide +kernel
theorem dL_law_461 : decode cL_law 461 = .ok (.aload_n 0, 1) := by decide +kernel
theorem dL_law_462 : decode cL_law 462 = .ok (.iload 4, 2) := by decide +kernel
theorem dL_law_464 : decode cL_law 464 = .ok (.iconst 4, 1) := by decide +kernel
theorem dL_law_465 : decode cL_law 465 = .ok (.iadd, 1) := by decide +kernel
theorem dL_law_466 : decode cL_law 466 = .ok (.iaload, 1) := by decide +kernel
theorem dL_law_467 : decode cL_law 467 = .ok (.i2l, 1) := by decide +kernel
theorem dL_law_468 : decode cL_law 468 = .ok (.bipush 32, 2) := by decide +kernel
theorem dL_law_470 : decode cL_law 470 = .ok (.lshl, 1) := by decide +kernel
theorem dL_law_471 : decode cL_law 471 = .ok (.aload_n 0, 1) := by decide +kernel
theorem dL_law_472 : decode cL_law 472 = .ok (.iload 4, 2) := by decide +kernel
theorem dL_law_474 : decode cL_law 474 = .ok (.iconst 5, 1) := by decide +kernel
theorem dL_law_475 : decode cL_law 475 = .ok (.iadd, 1) := by decide +kernel
theorem dL_law_476 : decode cL_law 476 = .ok (.iaload, 1) := by decide +kernel
theorem dL_law_477 : decode cL_law 477 = .ok (.i2l, 1) := by decide +kernel
theorem dL_law_478 : decode cL_law 478 = .ok (.ldc2_w 63, 3) := by decide +kernel
theorem dL_law_481 : decode cL_law 481 = .ok (.land, 1) := by decide +kernel
theorem dL_law_482 : decode cL_law 482 = .ok (.lor, 1) := by decide +kernel
theorem dL_law_483 : decode cL_law 483 = .ok (.invokevirtual 85, 3) := by decide +kernel
theorem dL_law_486 : decode cL_law 486 = .ok (.aload_n 2, 1) := by decide +kernel
theorem dL_law_487 : decode cL_law 487 = .ok (.invokevirtual 71, 3) := by decide +kernel
theorem dL_law_490 : decode cL_law 490 = .ok (.iload 5, 2) := by decide +kernel
theorem dL_law_492 : decode cL_law 492 = .ok (.if_icmp .eq 5, 3) := by decide +kernel
theorem dL_law_495 : decode cL_law 495 = .ok (.iconst 0, 1) := by decide +kernel
theorem dL_law_496 : decode cL_law 496 = .ok (.ireturn, 1) := by decide +kernel
theorem dL_law_497 : decode cL_law 497 = .ok (.goto 507, 3) := by decide +kernel
theorem dL_law_500 : decode cL_law 500 = .ok (.aload_n 1, 1) := by decide +kernel
theorem dL_law_501 : decode cL_law 501 = .ok (.aload_n 3, 1) := by decide +kernel
theorem dL_law_502 : decode cL_law 502 = .ok (.invokestatic 86, 3) := by decide +kernel
theorem dL_law_505 : decode cL_law 505 = .ok (.istore 5, 2) := by decide +kernel
theorem dL_law_507 : decode cL_law 507 = .ok (.aload_n 2, 1) := by decide +kernel
theorem dL_law_508 : decode cL_law 508 = .ok (.invokevirtual 89, 3) := by decide +kernel
theorem dL_law_511 : decode cL_law 511 = .ok (.istore 6, 2) := by decide +kernel
theorem dL_law_513 : decode cL_law 513 = .ok (.aload_n 2, 1) := by decide +kernel
theorem dL_law_514 : decode cL_law 514 = .ok (.invokevirtual 71, 3) := by decide +kernel
theorem dL_law_517 : decode cL_law 517 = .ok (.iload 5, 2) := by decide +kernel
theorem dL_law_519 : decode cL_law 519 = .ok (.if_icmp .eq 5, 3) := by decide +kernel
theorem dL_law_522 : decode cL_law 522 = .ok (.iconst 0, 1) := by decide +kernel
theorem dL_law_523 : decode cL_law 523 = .ok (.ireturn, 1) := by decide +kernel
theorem dL_law_524 : decode cL_law 524 = .ok (.iload 5, 2) := by decide +kernel
theorem dL_law_526 : decode cL_law 526 = .ok (.ifCond .ne 15, 3) := by decide +kernel
theorem dL_law_529 : decode cL_law 529 = .ok (.aload_n 3, 1) := by decide +kernel
theorem dL_law_530 : decode cL_law 530 = .ok (.iconst 0, 1) := by decide +kernel
theorem dL_law_531 : decode cL_law 531 = .ok (.laload, 1) := by decide +kernel
theorem dL_law_532 : decode cL_law 532 = .ok (.iload 6, 2) := by decide +kernel
theorem dL_law_534 : decode cL_law 534 = .ok (.i2l, 1) := by decide +kernel
theorem dL_law_535 : decode cL_law 535 = .ok (.lcmp, 1) := by decide +kernel
theorem dL_law_536 : decode cL_law 536 = .ok (.ifCond .eq 5, 3) := by decide +kernel
theorem dL_law_539 : decode cL_law 539 = .ok (.iconst 0, 1) := by decide +kernel
theorem dL_law_540 : decode cL_law 540 = .ok (.ireturn, 1) := by decide +kernel
theorem dL_law_541 : decode cL_law 541 = .ok (.goto 463, 3) := by decide +kernel
theorem dL_law_544 : decode cL_law 544 = .ok (.aload_n 1, 1) := by decide +kernel
theorem dL_law_545 : decode cL_law 545 = .ok (.aload_n 0, 1) := by decide +kernel
theorem dL_law_546 : decode cL_law 546 = .ok (.iload 4, 2) := by decide +kernel
theorem dL_law_548 : decode cL_law 548 = .ok (.iconst 1, 1) := by decide +kernel
theorem dL_law_549 : decode cL_law 549 = .ok (.iadd, 1) := by decide +kernel
theorem dL_law_550 : decode cL_law 550 = .ok (.iaload, 1) := by decide +kernel
theorem dL_law_551 : decode cL_law 551 = .ok (.aload_n 0, 1) := by decide +kernel
theorem dL_law_552 : decode cL_law 552 = .ok (.iload 4, 2) := by decide +kernel
theorem dL_law_554 : decode cL_law 554 = .ok (.iconst 2, 1) := by decide +kernel
theorem dL_law_555 : decode cL_law 555 = .ok (.iadd, 1) := by decide +kernel
theorem dL_law_556 : decode cL_law 556 = .ok (.iaload, 1) := by decide +kernel
theorem dL_law_557 : decode cL_law 557 = .ok (.aload_n 3, 1) := by decide +kernel
theorem dL_law_558 : decode cL_law 558 = .ok (.invokestatic 90, 3) := by decide +kernel
theorem dL_law_561 : decode cL_law 561 = .ok (.istore 5, 2) := by decide +kernel
theorem dL_law_563 : decode cL_law 563 = .ok (.aload_n 2, 1) := by decide +kernel
theorem dL_law_564 : decode cL_law 564 = .ok (.aload_n 0, 1) := by decide +kernel
theorem dL_law_565 : decode cL_law 565 = .ok (.iload 4, 2) := by decide +kernel
theorem dL_law_567 : decode cL_law 567 = .ok (.iconst 1, 1) := by decide +kernel
theorem dL_law_568 : decode cL_law 568 = .ok (.iadd, 1) := by decide +kernel
theorem dL_law_569 : decode cL_law 569 = .ok (.iaload, 1) := by decide +kernel
theorem dL_law_570 : decode cL_law 570 = .ok (.aload_n 0, 1) := by decide +kernel
theorem dL_law_571 : decode cL_law 571 = .ok (.iload 4, 2) := by decide +kernel
theorem dL_law_573 : decode cL_law 573 = .ok (.iconst 2, 1) := by decide +kernel
theorem dL_law_574 : decode cL_law 574 = .ok (.iadd, 1) := by decide +kernel
theorem dL_law_575 : decode cL_law 575 = .ok (.iaload, 1) := by decide +kernel
theorem dL_law_576 : decode cL_law 576 = .ok (.invokevirtual 93, 3) := by decide +kernel
theorem dL_law_579 : decode cL_law 579 = .ok (.lstore 6, 2) := by decide +kernel
theorem dL_law_581 : decode cL_law 581 = .ok (.aload_n 2, 1) := by decide +kernel
theorem dL_law_582 : decode cL_law 582 = .ok (.invokevirtual 71, 3) := by decide +kernel
theorem dL_law_585 : decode cL_law 585 = .ok (.iload 5, 2) := by decide +kernel
theorem dL_law_587 : decode cL_law 587 = .ok (.if_icmp .eq 5, 3) := by decide +kernel
theorem dL_law_590 : decode cL_law 590 = .ok (.iconst 0, 1) := by decide +kernel
theorem dL_law_591 : decode cL_law 591 = .ok (.ireturn, 1) := by decide +kernel
theorem dL_law_592 : decode cL_law 592 = .ok (.iload 5, 2) := by decide +kernel
theorem dL_law_594 : decode cL_law 594 = .ok (.ifCond .ne 14, 3) := by decide +kernel
theorem dL_law_597 : decode cL_law 597 = .ok (.aload_n 3, 1) := by decide +kernel
theorem dL_law_598 : decode cL_law 598 = .ok (.iconst 0, 1) := by decide +kernel
theorem dL_law_599 : decode cL_law 599 = .ok (.laload, 1) := by decide +kernel
theorem dL_law_600 : decode cL_law 600 = .ok (.lload 6, 2) := by decide +kernel
theorem dL_law_602 : decode cL_law 602 = .ok (.lcmp, 1) := by decide +kernel
theorem dL_law_603 : decode cL_law 603 = .ok (.ifCond .eq 5, 3) := by decide +kernel
theorem dL_law_606 : decode cL_law 606 = .ok (.iconst 0, 1) := by decide +kernel
theorem dL_law_607 : decode cL_law 607 = .ok (.ireturn, 1) := by decide +kernel
theorem dL_law_608 : decode cL_law 608 = .ok (.goto 396, 3) := by decide +kernel
theorem dL_law_611 : decode cL_law 611 = .ok (.aload_n 1, 1) := by decide +kernel
theorem dL_law_612 : decode cL_law 612 = .ok (.aload_n 0, 1) := by decide +kernel
theorem dL_law_613 : decode cL_law 613 = .ok (.iload 4, 2) := by decide +kernel
theorem dL_law_615 : decode cL_law 615 = .ok (.iconst 1, 1) := by decide +kernel
theorem dL_law_616 : decode cL_law 616 = .ok (.iadd, 1) := by decide +kernel
theorem dL_law_617 : decode cL_law 617 = .ok (.iaload, 1) := by decide +kernel
theorem dL_law_618 : decode cL_law 618 = .ok (.aload_n 0, 1) := by decide +kernel
theorem dL_law_619 : decode cL_law 619 = .ok (.iload 4, 2) := by decide +kernel
theorem dL_law_621 : decode cL_law 621 = .ok (.iconst 2, 1) := by decide +kernel
theorem dL_law_622 : decode cL_law 622 = .ok (.iadd, 1) := by decide +kernel
theorem dL_law_623 : decode cL_law 623 = .ok (.iaload, 1) := by decide +kernel
theorem dL_law_624 : decode cL_law 624 = .ok (.aload_n 0, 1) := by decide +kernel
theorem dL_law_625 : decode cL_law 625 = .ok (.iload 4, 2) := by decide +kernel
theorem dL_law_627 : decode cL_law 627 = .ok (.iconst 3, 1) := by decide +kernel
theorem dL_law_628 : decode cL_law 628 = .ok (.iadd, 1) := by decide +kernel
theorem dL_law_629 : decode cL_law 629 = .ok (.iaload, 1) := by decide +kernel
theorem dL_law_630 : decode cL_law 630 = .ok (.aload_n 3, 1) := by decide +kernel
theorem dL_law_631 : decode cL_law 631 = .ok (.invokestatic 94, 3) := by decide +kernel
theorem dL_law_634 : decode cL_law 634 = .ok (.istore 5, 2) := by decide +kernel
theorem dL_law_636 : decode cL_law 636 = .ok (.aload_n 2, 1) := by decide +kernel
theorem dL_law_637 : decode cL_law 637 = .ok (.aload_n 0, 1) := by decide +kernel
theorem dL_law_638 : decode cL_law 638 = .ok (.iload 4, 2) := by decide +kernel
theorem dL_law_640 : decode cL_law 640 = .ok (.iconst 1, 1) := by decide +kernel
theorem dL_law_641 : decode cL_law 641 = .ok (.iadd, 1) := by decide +kernel
theorem dL_law_642 : decode cL_law 642 = .ok (.iaload, 1) := by decide +kernel
theorem dL_law_643 : decode cL_law 643 = .ok (.aload_n 0, 1) := by decide +kernel
theorem dL_law_644 : decode cL_law 644 = .ok (.iload 4, 2) := by decide +kernel
theorem dL_law_646 : decode cL_law 646 = .ok (.iconst 2, 1) := by decide +kernel
theorem dL_law_647 : decode cL_law 647 = .ok (.iadd, 1) := by decide +kernel
theorem dL_law_648 : decode cL_law 648 = .ok (.iaload, 1) := by decide +kernel
theorem dL_law_649 : decode cL_law 649 = .ok (.aload_n 0, 1) := by decide +kernel
theorem dL_law_650 : decode cL_law 650 = .ok (.iload 4, 2) := by decide +kernel
theorem dL_law_652 : decode cL_law 652 = .ok (.iconst 3, 1) := by decide +kernel
theorem dL_law_653 : decode cL_law 653 = .ok (.iadd, 1) := by decide +kernel
theorem dL_law_654 : decode cL_law 654 = .ok (.iaload, 1) := by decide +kernel
theorem dL_law_655 : decode cL_law 655 = .ok (.invokevirtual 97, 3) := by decide +kernel
theorem dL_law_658 : decode cL_law 658 = .ok (.istore 6, 2) := by decide +kernel
theorem dL_law_660 : decode cL_law 660 = .ok (.aload_n 2, 1) := by decide +kernel
theorem dL_law_661 : decode cL_law 661 = .ok (.invokevirtual 71, 3) := by decide +kernel
theorem dL_law_664 : decode cL_law 664 = .ok (.iload 5, 2) := by decide +kernel
theorem dL_law_666 : decode cL_law 666 = .ok (.if_icmp .eq 5, 3) := by decide +kernel
theorem dL_law_669 : decode cL_law 669 = .ok (.iconst 0, 1) := by decide +kernel
theorem dL_law_670 : decode cL_law 670 = .ok (.ireturn, 1) := by decide +kernel
theorem dL_law_671 : decode cL_law 671 = .ok (.iload 5, 2) := by decide +kernel
theorem dL_law_673 : decode cL_law 673 = .ok (.ifCond .ne 15, 3) := by decide +kernel
theorem dL_law_676 : decode cL_law 676 = .ok (.aload_n 3, 1) := by decide +kernel
theorem dL_law_677 : decode cL_law 677 = .ok (.iconst 0, 1) := by decide +kernel
theorem dL_law_678 : decode cL_law 678 = .ok (.laload, 1) := by decide +kernel
theorem dL_law_679 : decode cL_law 679 = .ok (.iload 6, 2) := by decide +kernel
theorem dL_law_681 : decode cL_law 681 = .ok (.i2l, 1) := by decide +kernel
theorem dL_law_682 : decode cL_law 682 = .ok (.lcmp, 1) := by decide +kernel
theorem dL_law_683 : decode cL_law 683 = .ok (.ifCond .eq 5, 3) := by decide +kernel
theorem dL_law_686 : decode cL_law 686 = .ok (.iconst 0, 1) := by decide +kernel
theorem dL_law_687 : decode cL_law 687 = .ok (.ireturn, 1) := by decide +kernel
theorem dL_law_688 : decode cL_law 688 = .ok (.goto 316, 3) := by decide +kernel
theorem dL_law_691 : decode cL_law 691 = .ok (.aload_n 1, 1) := by decide +kernel
theorem dL_law_692 : decode cL_law 692 = .ok (.aload_n 0, 1) := by decide +kernel
theorem dL_law_693 : decode cL_law 693 = .ok (.iload 4, 2) := by decide +kernel
theorem dL_law_695 : decode cL_law 695 = .ok (.iconst 1, 1) := by decide +kernel
theorem dL_law_696 : decode cL_law 696 = .ok (.iadd, 1) := by decide +kernel
theorem dL_law_697 : decode cL_law 697 = .ok (.iaload, 1) := by decide +kernel
theorem dL_law_698 : decode cL_law 698 = .ok (.aload_n 0, 1) := by decide +kernel
theorem dL_law_699 : decode cL_law 699 = .ok (.iload 4, 2) := by decide +kernel
theorem dL_law_701 : decode cL_law 701 = .ok (.iconst 2, 1) := by decide +kernel
theorem dL_law_702 : decode cL_law 702 = .ok (.iadd, 1) := by decide +kernel
theorem dL_law_703 : decode cL_law 703 = .ok (.iaload, 1) := by decide +kernel
theorem dL_law_704 : decode cL_law 704 = .ok (.aload_n 0, 1) := by decide +kernel
theorem dL_law_705 : decode cL_law 705 = .ok (.iload 4, 2) := by decide +kernel
theorem dL_law_707 : decode cL_law 707 = .ok (.iconst 3, 1) := by decide +kernel
theorem dL_law_708 : decode cL_law 708 = .ok (.iadd, 1) := by decide +kernel
theorem dL_law_709 : decode cL_law 709 = .ok (.iaload, 1) := by decide +kernel
theorem dL_law_710 : decode cL_law 710 = .ok (.aload_n 3, 1) := by decide +kernel
theorem dL_law_711 : decode cL_law 711 = .ok (.invokestatic 98, 3) := by decide +kernel
theorem dL_law_714 : decode cL_law 714 = .ok (.istore 5, 2) := by decide +kernel
theorem dL_law_716 : decode cL_law 716 = .ok (.aload_n 2, 1) := by decide +kernel
theorem dL_law_717 : decode cL_law 717 = .ok (.aload_n 0, 1) := by decide +kernel
theorem dL_law_718 : decode cL_law 718 = .ok (.iload 4, 2) := by decide +kernel
theorem dL_law_720 : decode cL_law 720 = .ok (.iconst 1, 1) := by decide +kernel
theorem dL_law_721 : decode cL_law 721 = .ok (.iadd, 1) := by decide +kernel
theorem dL_law_722 : decode cL_law 722 = .ok (.iaload, 1) := by decide +kernel
theorem dL_law_723 : decode cL_law 723 = .ok (.aload_n 0, 1) := by decide +kernel
theorem dL_law_724 : decode cL_law 724 = .ok (.iload 4, 2) := by decide +kernel
theorem dL_law_726 : decode cL_law 726 = .ok (.iconst 2, 1) := by decide +kernel
theorem dL_law_727 : decode cL_law 727 = .ok (.iadd, 1) := by decide +kernel
theorem dL_law_728 : decode cL_law 728 = .ok (.iaload, 1) := by decide +kernel
theorem dL_law_729 : decode cL_law 729 = .ok (.aload_n 0, 1) := by decide +kernel
theorem dL_law_730 : decode cL_law 730 = .ok (.iload 4, 2) := by decide +kernel
theorem dL_law_732 : decode cL_law 732 = .ok (.iconst 3, 1) := by decide +kernel
theorem dL_law_733 : decode cL_law 733 = .ok (.iadd, 1) := by decide +kernel
theorem dL_law_734 : decode cL_law 734 = .ok (.iaload, 1) := by decide +kernel
theorem dL_law_735 : decode cL_law 735 = .ok (.invokevirtual 100, 3) := by decide +kernel
theorem dL_law_738 : decode cL_law 738 = .ok (.istore 6, 2) := by decide +kernel
theorem dL_law_740 : decode cL_law 740 = .ok (.aload_n 2, 1) := by decide +kernel
theorem dL_law_741 : decode cL_law 741 = .ok (.invokevirtual 71, 3) := by decide +kernel
theorem dL_law_744 : decode cL_law 744 = .ok (.iload 5, 2) := by decide +kernel
theorem dL_law_746 : decode cL_law 746 = .ok (.if_icmp .eq 5, 3) := by decide +kernel
theorem dL_law_749 : decode cL_law 749 = .ok (.iconst 0, 1) := by decide +kernel
theorem dL_law_750 : decode cL_law 750 = .ok (.ireturn, 1) := by decide +kernel
theorem dL_law_751 : decode cL_law 751 = .ok (.iload 5, 2) := by decide +kernel
theorem dL_law_753 : decode cL_law 753 = .ok (.ifCond .ne 15, 3) := by decide +kernel
theorem dL_law_756 : decode cL_law 756 = .ok (.aload_n 3, 1) := by decide +kernel
theorem dL_law_757 : decode cL_law 757 = .ok (.iconst 0, 1) := by decide +kernel
theorem dL_law_758 : decode cL_law 758 = .ok (.laload, 1) := by decide +kernel
theorem dL_law_759 : decode cL_law 759 = .ok (.iload 6, 2) := by decide +kernel
theorem dL_law_761 : decode cL_law 761 = .ok (.i2l, 1) := by decide +kernel
theorem dL_law_762 : decode cL_law 762 = .ok (.lcmp, 1) := by decide +kernel
theorem dL_law_763 : decode cL_law 763 = .ok (.ifCond .eq 5, 3) := by decide +kernel
theorem dL_law_766 : decode cL_law 766 = .ok (.iconst 0, 1) := by decide +kernel
theorem dL_law_767 : decode cL_law 767 = .ok (.ireturn, 1) := by decide +kernel
theorem dL_law_768 : decode cL_law 768 = .ok (.goto 236, 3) := by decide +kernel
theorem dL_law_771 : decode cL_law 771 = .ok (.aload_n 1, 1) := by decide +kernel
theorem dL_law_772 : decode cL_law 772 = .ok (.aload_n 0, 1) := by decide +kernel
theorem dL_law_773 : decode cL_law 773 = .ok (.iload 4, 2) := by decide +kernel
theorem dL_law_775 : decode cL_law 775 = .ok (.iconst 1, 1) := by decide +kernel
theorem dL_law_776 : decode cL_law 776 = .ok (.iadd, 1) := by decide +kernel
theorem dL_law_777 : decode cL_law 777 = .ok (.iaload, 1) := by decide +kernel
theorem dL_law_778 : decode cL_law 778 = .ok (.aload_n 0, 1) := by decide +kernel
theorem dL_law_779 : decode cL_law 779 = .ok (.iload 4, 2) := by decide +kernel
theorem dL_law_781 : decode cL_law 781 = .ok (.iconst 2, 1) := by decide +kernel
theorem dL_law_782 : decode cL_law 782 = .ok (.iadd, 1) := by decide +kernel
theorem dL_law_783 : decode cL_law 783 = .ok (.iaload, 1) := by decide +kernel
theorem dL_law_784 : decode cL_law 784 = .ok (.aload_n 0, 1) := by decide +kernel
theorem dL_law_785 : decode cL_law 785 = .ok (.iload 4, 2) := by decide +kernel
theorem dL_law_787 : decode cL_law 787 = .ok (.iconst 3, 1) := by decide +kernel
theorem dL_law_788 : decode cL_law 788 = .ok (.iadd, 1) := by decide +kernel
theorem dL_law_789 : decode cL_law 789 = .ok (.iaload, 1) := by decide +kernel
theorem dL_law_790 : decode cL_law 790 = .ok (.aload_n 0, 1) := by decide +kernel
theorem dL_law_791 : decode cL_law 791 = .ok (.iload 4, 2) := by decide +kernel
theorem dL_law_793 : decode cL_law 793 = .ok (.iconst 4, 1) := by decide +kernel
theorem dL_law_794 : decode cL_law 794 = .ok (.iadd, 1) := by decide +kernel
theorem dL_law_795 : decode cL_law 795 = .ok (.iaload, 1) := by decide +kernel
theorem dL_law_796 : decode cL_law 796 = .ok (.aload_n 3, 1) := by decide +kernel
theorem dL_law_797 : decode cL_law 797 = .ok (.invokestatic 101, 3) := by decide +kernel
theorem dL_law_800 : decode cL_law 800 = .ok (.istore 5, 2) := by decide +kernel
theorem dL_law_802 : decode cL_law 802 = .ok (.aload_n 2, 1) := by decide +kernel
theorem dL_law_803 : decode cL_law 803 = .ok (.aload_n 0, 1) := by decide +kernel
theorem dL_law_804 : decode cL_law 804 = .ok (.iload 4, 2) := by decide +kernel
theorem dL_law_806 : decode cL_law 806 = .ok (.iconst 1, 1) := by decide +kernel
theorem dL_law_807 : decode cL_law 807 = .ok (.iadd, 1) := by decide +kernel
theorem dL_law_808 : decode cL_law 808 = .ok (.iaload, 1) := by decide +kernel
theorem dL_law_809 : decode cL_law 809 = .ok (.aload_n 0, 1) := by decide +kernel
theorem dL_law_810 : decode cL_law 810 = .ok (.iload 4, 2) := by decide +kernel
theorem dL_law_812 : decode cL_law 812 = .ok (.iconst 2, 1) := by decide +kernel
theorem dL_law_813 : decode cL_law 813 = .ok (.iadd, 1) := by decide +kernel
theorem dL_law_814 : decode cL_law 814 = .ok (.iaload, 1) := by decide +kernel
theorem dL_law_815 : decode cL_law 815 = .ok (.aload_n 0, 1) := by decide +kernel
theorem dL_law_816 : decode cL_law 816 = .ok (.iload 4, 2) := by decide +kernel
theorem dL_law_818 : decode cL_law 818 = .ok (.iconst 3, 1) := by decide +kernel
theorem dL_law_819 : decode cL_law 819 = .ok (.iadd, 1) := by decide +kernel
theorem dL_law_820 : decode cL_law 820 = .ok (.iaload, 1) := by decide +kernel
theorem dL_law_821 : decode cL_law 821 = .ok (.aload_n 0, 1) := by decide +kernel
theorem dL_law_822 : decode cL_law 822 = .ok (.iload 4, 2) := by decide +kernel
theorem dL_law_824 : decode cL_law 824 = .ok (.iconst 4, 1) := by decide +kernel
theorem dL_law_825 : decode cL_law 825 = .ok (.iadd, 1) := by decide +kernel
theorem dL_law_826 : decode cL_law 826 = .ok (.iaload, 1) := by decide +kernel
theorem dL_law_827 : decode cL_law 827 = .ok (.invokevirtual 104, 3) := by decide +kernel
theorem dL_law_830 : decode cL_law 830 = .ok (.istore 6, 2) := by decide +kernel
theorem dL_law_832 : decode cL_law 832 = .ok (.aload_n 2, 1) := by decide +kernel
theorem dL_law_833 : decode cL_law 833 = .ok (.invokevirtual 71, 3) := by decide +kernel
theorem dL_law_836 : decode cL_law 836 = .ok (.iload 5, 2) := by decide +kernel
theorem dL_law_838 : decode cL_law 838 = .ok (.if_icmp .eq 5, 3) := by decide +kernel
theorem dL_law_841 : decode cL_law 841 = .ok (.iconst 0, 1) := by decide +kernel
theorem dL_law_842 : decode cL_law 842 = .ok (.ireturn, 1) := by decide +kernel
theorem dL_law_843 : decode cL_law 843 = .ok (.iload 5, 2) := by decide +kernel
theorem dL_law_845 : decode cL_law 845 = .ok (.ifCond .ne 15, 3) := by decide +kernel
theorem dL_law_848 : decode cL_law 848 = .ok (.aload_n 3, 1) := by decide +kernel
theorem dL_law_849 : decode cL_law 849 = .ok (.iconst 0, 1) := by decide +kernel
theorem dL_law_850 : decode cL_law 850 = .ok (.laload, 1) := by decide +kernel
theorem dL_law_851 : decode cL_law 851 = .ok (.iload 6, 2) := by decide +kernel
theorem dL_law_853 : decode cL_law 853 = .ok (.i2l, 1) := by decide +kernel
theorem dL_law_854 : decode cL_law 854 = .ok (.lcmp, 1) := by decide +kernel
theorem dL_law_855 : decode cL_law 855 = .ok (.ifCond .eq 5, 3) := by decide +kernel
theorem dL_law_858 : decode cL_law 858 = .ok (.iconst 0, 1) := by decide +kernel
theorem dL_law_859 : decode cL_law 859 = .ok (.ireturn, 1) := by decide +kernel
theorem dL_law_860 : decode cL_law 860 = .ok (.goto 144, 3) := by decide +kernel
theorem dL_law_863 : decode cL_law 863 = .ok (.aload_n 1, 1) := by decide +kernel
theorem dL_law_864 : decode cL_law 864 = .ok (.aload_n 0, 1) := by decide +kernel
theorem dL_law_865 : decode cL_law 865 = .ok (.iload 4, 2) := by decide +kernel
theorem dL_law_867 : decode cL_law 867 = .ok (.iconst 1, 1) := by decide +kernel
theorem dL_law_868 : decode cL_law 868 = .ok (.iadd, 1) := by decide +kernel
theorem dL_law_869 : decode cL_law 869 = .ok (.iaload, 1) := by decide +kernel
theorem dL_law_870 : decode cL_law 870 = .ok (.invokestatic 105, 3) := by decide +kernel
theorem dL_law_873 : decode cL_law 873 = .ok (.istore 5, 2) := by decide +kernel
theorem dL_law_875 : decode cL_law 875 = .ok (.aload_n 2, 1) := by decide +kernel
theorem dL_law_876 : decode cL_law 876 = .ok (.aload_n 0, 1) := by decide +kernel
theorem dL_law_877 : decode cL_law 877 = .ok (.iload 4, 2) := by decide +kernel
theorem dL_law_879 : decode cL_law 879 = .ok (.iconst 1, 1) := by decide +kernel
theorem dL_law_880 : decode cL_law 880 = .ok (.iadd, 1) := by decide +kernel
theorem dL_law_881 : decode cL_law 881 = .ok (.iaload, 1) := by decide +kernel
theorem dL_law_882 : decode cL_law 882 = .ok (.invokevirtual 108, 3) := by decide +kernel
theorem dL_law_885 : decode cL_law 885 = .ok (.aload_n 2, 1) := by decide +kernel
theorem dL_law_886 : decode cL_law 886 = .ok (.invokevirtual 71, 3) := by decide +kernel
theorem dL_law_889 : decode cL_law 889 = .ok (.iload 5, 2) := by decide +kernel
theorem dL_law_891 : decode cL_law 891 = .ok (.if_icmp .eq 5, 3) := by decide +kernel
theorem dL_law_894 : decode cL_law 894 = .ok (.iconst 0, 1) := by decide +kernel
theorem dL_law_895 : decode cL_law 895 = .ok (.ireturn, 1) := by decide +kernel
theorem dL_law_896 : decode cL_law 896 = .ok (.goto 108, 3) := by decide +kernel
theorem dL_law_899 : decode cL_law 899 = .ok (.aload_n 1, 1) := by decide +kernel
theorem dL_law_900 : decode cL_law 900 = .ok (.aload_n 0, 1) := by decide +kernel
theorem dL_law_901 : decode cL_law 901 = .ok (.iload 4, 2) := by decide +kernel
theorem dL_law_903 : decode cL_law 903 = .ok (.iconst 1, 1) := by decide +kernel
theorem dL_law_904 : decode cL_law 904 = .ok (.iadd, 1) := by decide +kernel
theorem dL_law_905 : decode cL_law 905 = .ok (.iaload, 1) := by decide +kernel
theorem dL_law_906 : decode cL_law 906 = .ok (.aload_n 0, 1) := by decide +kernel
theorem dL_law_907 : decode cL_law 907 = .ok (.iload 4, 2) := by decide +kernel
theorem dL_law_909 : decode cL_law 909 = .ok (.iconst 2, 1) := by decide +kernel
theorem dL_law_910 : decode cL_law 910 = .ok (.iadd, 1) := by decide +kernel
theorem dL_law_911 : decode cL_law 911 = .ok (.iaload, 1) := by decide +kernel
theorem dL_law_912 : decode cL_law 912 = .ok (.aload_n 0, 1) := by decide +kernel
theorem dL_law_913 : decode cL_law 913 = .ok (.iload 4, 2) := by decide +kernel
theorem dL_law_915 : decode cL_law 915 = .ok (.iconst 3, 1) := by decide +kernel
theorem dL_law_916 : decode cL_law 916 = .ok (.iadd, 1) := by decide +kernel
theorem dL_law_917 : decode cL_law 917 = .ok (.iaload, 1) := by decide +kernel
theorem dL_law_918 : decode cL_law 918 = .ok (.aload_n 3, 1) := by decide +kernel
theorem dL_law_919 : decode cL_law 919 = .ok (.invokestatic 109, 3) := by decide +kernel
theorem dL_law_922 : decode cL_law 922 = .ok (.istore 5, 2) := by decide +kernel
theorem dL_law_924 : decode cL_law 924 = .ok (.aload_n 2, 1) := by decide +kernel
theorem dL_law_925 : decode cL_law 925 = .ok (.aload_n 0, 1) := by decide +kernel
theorem dL_law_926 : decode cL_law 926 = .ok (.iload 4, 2) := by decide +kernel
theorem dL_law_928 : decode cL_law 928 = .ok (.iconst 1, 1) := by decide +kernel
theorem dL_law_929 : decode cL_law 929 = .ok (.iadd, 1) := by decide +kernel
theorem dL_law_930 : decode cL_law 930 = .ok (.iaload, 1) := by decide +kernel
theorem dL_law_931 : decode cL_law 931 = .ok (.aload_n 0, 1) := by decide +kernel
theorem dL_law_932 : decode cL_law 932 = .ok (.iload 4, 2) := by decide +kernel
theorem dL_law_934 : decode cL_law 934 = .ok (.iconst 2, 1) := by decide +kernel
theorem dL_law_935 : decode cL_law 935 = .ok (.iadd, 1) := by decide +kernel
theorem dL_law_936 : decode cL_law 936 = .ok (.iaload, 1) := by decide +kernel
theorem dL_law_937 : decode cL_law 937 = .ok (.aload_n 0, 1) := by decide +kernel
theorem dL_law_938 : decode cL_law 938 = .ok (.iload 4, 2) := by decide +kernel
theorem dL_law_940 : decode cL_law 940 = .ok (.iconst 3, 1) := by decide +kernel
theorem dL_law_941 : decode cL_law 941 = .ok (.iadd, 1) := by decide +kernel
theorem dL_law_942 : decode cL_law 942 = .ok (.iaload, 1) := by decide +kernel
theorem dL_law_943 : decode cL_law 943 = .ok (.invokevirtual 111, 3) := by decide +kernel
theorem dL_law_946 : decode cL_law 946 = .ok (.istore 6, 2) := by decide +kernel
theorem dL_law_948 : decode cL_law 948 = .ok (.aload_n 2, 1) := by decide +kernel
theorem dL_law_949 : decode cL_law 949 = .ok (.invokevirtual 71, 3) := by decide +kernel
theorem dL_law_952 : decode cL_law 952 = .ok (.iload 5, 2) := by decide +kernel
theorem dL_law_954 : decode cL_law 954 = .ok (.if_icmp .eq 5, 3) := by decide +kernel
theorem dL_law_957 : decode cL_law 957 = .ok (.iconst 0, 1) := by decide +kernel
theorem dL_law_958 : decode cL_law 958 = .ok (.ireturn, 1) := by decide +kernel
theorem dL_law_959 : decode cL_law 959 = .ok (.iload 5, 2) := by decide +kernel
theorem dL_law_961 : decode cL_law 961 = .ok (.ifCond .ne 15, 3) := by decide +kernel
theorem dL_law_964 : decode cL_law 964 = .ok (.aload_n 3, 1) := by decide +kernel
theorem dL_law_965 : decode cL_law 965 = .ok (.iconst 0, 1) := by decide +kernel
theorem dL_law_966 : decode cL_law 966 = .ok (.laload, 1) := by decide +kernel
theorem dL_law_967 : decode cL_law 967 = .ok (.iload 6, 2) := by decide +kernel
theorem dL_law_969 : decode cL_law 969 = .ok (.i2l, 1) := by decide +kernel
theorem dL_law_970 : decode cL_law 970 = .ok (.lcmp, 1) := by decide +kernel
theorem dL_law_971 : decode cL_law 971 = .ok (.ifCond .eq 5, 3) := by decide +kernel
theorem dL_law_974 : decode cL_law 974 = .ok (.iconst 0, 1) := by decide +kernel
theorem dL_law_975 : decode cL_law 975 = .ok (.ireturn, 1) := by decide +kernel
theorem dL_law_976 : decode cL_law 976 = .ok (.goto 28, 3) := by decide +kernel
theorem dL_law_979 : decode cL_law 979 = .ok (.aload_n 1, 1) := by decide +kernel
theorem dL_law_980 : decode cL_law 980 = .ok (.aload_n 0, 1) := by decide +kernel
theorem dL_law_981 : decode cL_law 981 = .ok (.iload 4, 2) := by decide +kernel
theorem dL_law_983 : decode cL_law 983 = .ok (.iconst 1, 1) := by decide +kernel
theorem dL_law_984 : decode cL_law 984 = .ok (.iadd, 1) := by decide +kernel
theorem dL_law_985 : decode cL_law 985 = .ok (.iaload, 1) := by decide +kernel
theorem dL_law_986 : decode cL_law 986 = .ok (.invokevirtual 112, 3) := by decide +kernel
theorem dL_law_989 : decode cL_law 989 = .ok (.aload_n 2, 1) := by decide +kernel
theorem dL_law_990 : decode cL_law 990 = .ok (.aload_n 0, 1) := by decide +kernel
theorem dL_law_991 : decode cL_law 991 = .ok (.iload 4, 2) := by decide +kernel
theorem dL_law_993 : decode cL_law 993 = .ok (.iconst 1, 1) := by decide +kernel
theorem dL_law_994 : decode cL_law 994 = .ok (.iadd, 1) := by decide +kernel
theorem dL_law_995 : decode cL_law 995 = .ok (.iaload, 1) := by decide +kernel
theorem dL_law_996 : decode cL_law 996 = .ok (.invokevirtual 115, 3) := by decide +kernel
theorem dL_law_999 : decode cL_law 999 = .ok (.if_icmp .eq 5, 3) := by decide +kernel
theorem dL_law_1002 : decode cL_law 1002 = .ok (.iconst 0, 1) := by decide +kernel
theorem dL_law_1003 : decode cL_law 1003 = .ok (.ireturn, 1) := by decide +kernel
theorem dL_law_1004 : decode cL_law 1004 = .ok (.iinc 4 6, 3) := by decide +kernel
theorem dL_law_1007 : decode cL_law 1007 = .ok (.goto (-984), 3) := by decide +kernel
theorem dL_law_1010 : decode cL_law 1010 = .ok (.iconst 1, 1) := by decide +kernel
theorem dL_law_1011 : decode cL_law 1011 = .ok (.ireturn, 1) := by decide +kernel
end
section
/-! Worlds, what a contract's start and end are, calls in one row. -/
abbrev rT (cI cJ cZ : ClassId) : List (ClassId × FieldType) := [(cI, .int), (cJ, .long), (cZ, .boolean)]
/-- a start that reads only -/
def ro_Pc (D : va_G) (cI cJ cZ : ClassId) (av : List Value) (ws : va_W) : Array Value → State → Prop := va_Pc av (fun U => va_P D vwCl ws U.heap ∧ va_K D vwCl (rT cI cJ cZ) U)
theorem ro_blind {D : va_G} {cI cJ cZ : ClassId} {av : List Value} {ws : va_W} : FrameBlind (ro_Pc D cI cJ cZ av ws) := fun a U g mk q => by
  obtain ⟨q0, qP, qK⟩ := q
  exact ⟨q0, qP, va_K.moved (u := U) (U := U.calling g mk a) (Vm.Alike.refl U.vm) qK⟩
/-- a start that writes: its cells lie apart, the heap's size is sz -/
def rw_Pc (D : va_G) (cI cJ cZ : ClassId) (sz : Nat) (av : List Value) (ws : va_W) : Array Value → State → Prop := va_Pc av (fun U => U.heap.size = sz ∧ va_P D vwCl ws U.heap ∧ va_K D vwCl (rT cI cJ cZ) U ∧ va_D (fun _ => True) ws)
theorem rw_blind {D : va_G} {cI cJ cZ : ClassId} {sz : Nat} {av : List Value} {ws : va_W} : FrameBlind (rw_Pc D cI cJ cZ sz av ws) := fun a U g mk q => by
  obtain ⟨q0, q1, qP, qK, qD⟩ := q
  exact ⟨q0, q1, qP, va_K.moved (u := U) (U := U.calling g mk a) (Vm.Alike.refl U.vm) qK, qD⟩
/-- the world behind a writer -/
def rw_B {S : Type} (D : va_G) (cI cJ cZ : ClassId) (sz : Nat) (ws : va_W) (w1 : S → va_W) : S → State → Prop := fun u t => va_P D vwCl (w1 u) t.heap ∧ va_K D vwCl (rT cI cJ cZ) t ∧ va_D (va_A ws sz) (w1 u)
def rw_Qv {S : Type} (D : va_G) (cI cJ cZ : ClassId) (sz : Nat) (ws : va_W) (w1 : S → va_W) (post : S → Prop) : Array Value → State → Outcome → State → Prop := va_Qv post (rw_B D cI cJ cZ sz ws w1) (va_A ws sz)
def rw_Qi {S : Type} (D : va_G) (cI cJ cZ : ClassId) (sz : Nat) (ws : va_W) (w1 : S → va_W) (post : Int32 → S → Prop) : Array Value → State → Outcome → State → Prop := va_Qi post (rw_B D cI cJ cZ sz ws w1) (va_A ws sz)
def rw_Ql {S : Type} (D : va_G) (cI cJ cZ : ClassId) (sz : Nat) (ws : va_W) (w1 : S → va_W) (post : Int64 → S → Prop) : Array Value → State → Outcome → State → Prop := va_Ql post (rw_B D cI cJ cZ sz ws w1) (va_A ws sz)
section RwCalls
variable {p : Program} {l : Launch} {e : Env} {R : Room} {s : State} {m : MethodId} {args : Array Value} {below : List Frame} {meth : Method} {c : Code} {H : Heap} {locs : List Loc} {cells slots : Nat} {Q : State → Prop}
variable {y : MethodName} {bytes cc : ByteArray} {maxL nL mc ms n index : Nat} {ret : Option FieldType} {ws0 : List Cond} {rm : Room} {Ts : List Cond} {own C : String} {b : Addr} {As rest : List Value} {pc : Nat} {ls : Array Slot}
variable {D : va_G} {cI cJ cZ : ClassId} {ws wc wr : va_W} {A0 : Nat → Prop} {H0 : Heap} {S : Type}
theorem ro_callVi {post : Int32 → Prop} (F : CallFix p m c cc nL s args Ts own) (hM : Met l y ws0 rm (ro_Pc D cI cJ cZ (.ref b :: As) wc) (vp_Si post) 0 0 (fun _ => False)) (cw : CallW R s args own C index y bytes maxL ret ws0 rm 0 0 n)
    (hrec : ∃ cellB : Cell, H[b]? = some cellB ∧ cellB.vm.isStatics = false ∧ s.vm.findClass C = some cellB.cls) (hPc : va_P D vwCl wc H) (hK : va_K D vwCl (rT cI cJ cZ) s) (hn : As.length = n) (hsize : ls.size = nL) (hW : (rest.map fun v => v.category).sum ≤ 8) (hcs : cells ≤ R.cells ∧ slots ≤ R.slots) {st0 : List Value} (hst : st0 = As.reverse ++ .ref b :: rest) (hdg : decode cc pc = .ok (.invokevirtual index, 3))
    (kk : ∀ r : Int32, post r → W p l e R s m args below meth c H locs cells slots Q (F0 m (pc + 3) ls (.int r :: rest))) : W p l e R s m args below meth c H locs cells slots Q (F0 m pc ls st0) :=
  vp_callSi (va_runV (As := As) (rest := rest) F hM cw ⟨ro_blind, hrec, fun U hU hW => ⟨rfl, by rw [hU]; exact hPc, va_K.moved hW.alike hK⟩⟩ rfl hn hsize hst (lv_room hW) hdg hcs).run kk
theorem ro_callVl {post : Int64 → Prop} (F : CallFix p m c cc nL s args Ts own) (hM : Met l y ws0 rm (ro_Pc D cI cJ cZ (.ref b :: As) wc) (vp_Sl post) 0 0 (fun _ => False)) (cw : CallW R s args own C index y bytes maxL ret ws0 rm 0 0 n)
    (hrec : ∃ cellB : Cell, H[b]? = some cellB ∧ cellB.vm.isStatics = false ∧ s.vm.findClass C = some cellB.cls) (hPc : va_P D vwCl wc H) (hK : va_K D vwCl (rT cI cJ cZ) s) (hn : As.length = n) (hsize : ls.size = nL) (hW : (rest.map fun v => v.category).sum ≤ 8) (hcs : cells ≤ R.cells ∧ slots ≤ R.slots) {st0 : List Value} (hst : st0 = As.reverse ++ .ref b :: rest) (hdg : decode cc pc = .ok (.invokevirtual index, 3))
    (kk : ∀ r : Int64, post r → W p l e R s m args below meth c H locs cells slots Q (F0 m (pc + 3) ls (.long r :: rest))) : W p l e R s m args below meth c H locs cells slots Q (F0 m pc ls st0) :=
  vp_callSl (va_runV (As := As) (rest := rest) F hM cw ⟨ro_blind, hrec, fun U hU hW => ⟨rfl, by rw [hU]; exact hPc, va_K.moved hW.alike hK⟩⟩ rfl hn hsize hst (lv_room hW) hdg hcs).run kk
/-- what a writer's call needs of the caller's world, and what the world is behind it -/
theorem rw_behind {w1 : va_W} {H1 : Heap} {t : State} (hP : va_P D vwCl ws H) (hD : va_D A0 ws) (hS : va_S A0 H0 H locs) (hA : ∀ q, H0.size ≤ q → A0 q) (isC isR : List Nat) (hC : isC.map (fun i => ws[i]?) = wc.map some) (hR : isR.map (fun i => ws[i]?) = wr.map some) (hn : va_nd isR = true) (hdis : ∀ i ∈ isR, i ∉ isC)
    (hk : ∀ q : Nat, q < H.size → ¬ va_A wc H.size q → H1[q]? = H[q]?) (ht : t.heap = H1) (hB : va_P D vwCl w1 t.heap ∧ va_K D vwCl (rT cI cJ cZ) t ∧ va_D (va_A wc H.size) w1) : va_P D vwCl (wr ++ w1) H1 ∧ va_D A0 (wr ++ w1) := by
  obtain ⟨hP1, -, hD1⟩ := hB
  rw [ht] at hP1
  exact va_join (wr := wr) (w1 := w1) hP hD isC isR hC hR hn hdis hk (va_free hD hS hA isC hC) hP1 hD1
theorem rw_callVv {post : S → Prop} {w1 : S → va_W} (F : CallFix p m c cc nL s args Ts own) (hM : Met l y ws0 rm (rw_Pc D cI cJ cZ H.size (.ref b :: As) wc) (rw_Qv D cI cJ cZ H.size wc w1 post) mc ms (va_A wc H.size)) (cw : CallW R s args own C index y bytes maxL ret ws0 rm mc ms n)
    (hrec : ∃ cellB : Cell, H[b]? = some cellB ∧ cellB.vm.isStatics = false ∧ s.vm.findClass C = some cellB.cls) (hK : va_K D vwCl (rT cI cJ cZ) s) (hP : va_P D vwCl ws H) (hD : va_D A0 ws) (hS : va_S A0 H0 H locs) (hA : ∀ q, H0.size ≤ q → A0 q)
    (isC isR : List Nat) (hC : isC.map (fun i => ws[i]?) = wc.map some) (hC' : isC.filterMap (fun i => ws[i]?) = wc) (hR : isR.map (fun i => ws[i]?) = wr.map some) (hnC : va_nd isC = true) (hn' : va_nd isR = true) (hdis : ∀ i ∈ isR, i ∉ isC) (hn : As.length = n) (hsize : ls.size = nL) (hW : (rest.map fun v => v.category).sum ≤ 8) (hcs : cells + mc ≤ R.cells ∧ slots + ms ≤ R.slots) {st0 : List Value} (hst : st0 = As.reverse ++ .ref b :: rest) (hdg : decode cc pc = .ok (.invokevirtual index, 3))
    (kk : ∀ (u : S) (H : Heap) (locs : List Loc), post u → va_P D vwCl (wr ++ w1 u) H → va_D A0 (wr ++ w1 u) → va_S A0 H0 H locs → W p l e R s m args below meth c H locs (cells + mc) (slots + ms) Q (F0 m (pc + 3) ls rest)) : W p l e R s m args below meth c H locs cells slots Q (F0 m pc ls st0) := by
  have hFc := va_free (wc := wc) hD hS hA isC hC
  refine va_callv (va_runV (As := As) (rest := rest) F hM cw ⟨rw_blind, hrec, fun U hU hW => ⟨rfl, by rw [hU], by rw [hU]; exact hP.sub isC hC', va_K.moved hW.alike hK, (hD.sub isC hnC hC).weaken (fun _ _ _ _ => trivial)⟩⟩ rfl hn hsize hst (lv_room hW) hdg hcs) hS (fun q _ h => hFc q h) hFc (fun u t H1 locs1 ht hvm hw hB hz1 hk1 hS1 => ?_)
  obtain ⟨q1, q2⟩ := rw_behind (cI := cI) (cJ := cJ) (cZ := cZ) hP hD hS hA isC isR hC hR hn' hdis hk1 ht hB
  exact kk u H1 locs1 hw q1 q2 hS1
theorem rw_callVi {post : Int32 → S → Prop} {w1 : S → va_W} (F : CallFix p m c cc nL s args Ts own) (hM : Met l y ws0 rm (rw_Pc D cI cJ cZ H.size (.ref b :: As) wc) (rw_Qi D cI cJ cZ H.size wc w1 post) mc ms (va_A wc H.size)) (cw : CallW R s args own C index y bytes maxL ret ws0 rm mc ms n)
    (hrec : ∃ cellB : Cell, H[b]? = some cellB ∧ cellB.vm.isStatics = false ∧ s.vm.findClass C = some cellB.cls) (hK : va_K D vwCl (rT cI cJ cZ) s) (hP : va_P D vwCl ws H) (hD : va_D A0 ws) (hS : va_S A0 H0 H locs) (hA : ∀ q, H0.size ≤ q → A0 q)
    (isC isR : List Nat) (hC : isC.map (fun i => ws[i]?) = wc.map some) (hC' : isC.filterMap (fun i => ws[i]?) = wc) (hR : isR.map (fun i => ws[i]?) = wr.map some) (hnC : va_nd isC = true) (hn' : va_nd isR = true) (hdis : ∀ i ∈ isR, i ∉ isC) (hn : As.length = n) (hsize : ls.size = nL) (hW : (rest.map fun v => v.category).sum ≤ 8) (hcs : cells + mc ≤ R.cells ∧ slots + ms ≤ R.slots) {st0 : List Value} (hst : st0 = As.reverse ++ .ref b :: rest) (hdg : decode cc pc = .ok (.invokevirtual index, 3))
    (kk : ∀ (r : Int32) (u : S) (H : Heap) (locs : List Loc), post r u → va_P D vwCl (wr ++ w1 u) H → va_D A0 (wr ++ w1 u) → va_S A0 H0 H locs → W p l e R s m args below meth c H locs (cells + mc) (slots + ms) Q (F0 m (pc + 3) ls (.int r :: rest))) : W p l e R s m args below meth c H locs cells slots Q (F0 m pc ls st0) := by
  have hFc := va_free (wc := wc) hD hS hA isC hC
  refine va_calli (va_runV (As := As) (rest := rest) F hM cw ⟨rw_blind, hrec, fun U hU hW => ⟨rfl, by rw [hU], by rw [hU]; exact hP.sub isC hC', va_K.moved hW.alike hK, (hD.sub isC hnC hC).weaken (fun _ _ _ _ => trivial)⟩⟩ rfl hn hsize hst (lv_room hW) hdg hcs) hS (fun q _ h => hFc q h) hFc (fun r u t H1 locs1 ht hvm hw hB hz1 hk1 hS1 => ?_)
  obtain ⟨q1, q2⟩ := rw_behind (cI := cI) (cJ := cJ) (cZ := cZ) hP hD hS hA isC isR hC hR hn' hdis hk1 ht hB
  exact kk r u H1 locs1 hw q1 q2 hS1
theorem rw_callVl {post : Int64 → S → Prop} {w1 : S → va_W} (F : CallFix p m c cc nL s args Ts own) (hM : Met l y ws0 rm (rw_Pc D cI cJ cZ H.size (.ref b :: As) wc) (rw_Ql D cI cJ cZ H.size wc w1 post) mc ms (va_A wc H.size)) (cw : CallW R s args own C index y bytes maxL ret ws0 rm mc ms n)
    (hrec : ∃ cellB : Cell, H[b]? = some cellB ∧ cellB.vm.isStatics = false ∧ s.vm.findClass C = some cellB.cls) (hK : va_K D vwCl (rT cI cJ cZ) s) (hP : va_P D vwCl ws H) (hD : va_D A0 ws) (hS : va_S A0 H0 H locs) (hA : ∀ q, H0.size ≤ q → A0 q)
    (isC isR : List Nat) (hC : isC.map (fun i => ws[i]?) = wc.map some) (hC' : isC.filterMap (fun i => ws[i]?) = wc) (hR : isR.map (fun i => ws[i]?) = wr.map some) (hnC : va_nd isC = true) (hn' : va_nd isR = true) (hdis : ∀ i ∈ isR, i ∉ isC) (hn : As.length = n) (hsize : ls.size = nL) (hW : (rest.map fun v => v.category).sum ≤ 8) (hcs : cells + mc ≤ R.cells ∧ slots + ms ≤ R.slots) {st0 : List Value} (hst : st0 = As.reverse ++ .ref b :: rest) (hdg : decode cc pc = .ok (.invokevirtual index, 3))
    (kk : ∀ (r : Int64) (u : S) (H : Heap) (locs : List Loc), post r u → va_P D vwCl (wr ++ w1 u) H → va_D A0 (wr ++ w1 u) → va_S A0 H0 H locs → W p l e R s m args below meth c H locs (cells + mc) (slots + ms) Q (F0 m (pc + 3) ls (.long r :: rest))) : W p l e R s m args below meth c H locs cells slots Q (F0 m pc ls st0) := by
  have hFc := va_free (wc := wc) hD hS hA isC hC
  refine va_calll (va_runV (As := As) (rest := rest) F hM cw ⟨rw_blind, hrec, fun U hU hW => ⟨rfl, by rw [hU], by rw [hU]; exact hP.sub isC hC', va_K.moved hW.alike hK, (hD.sub isC hnC hC).weaken (fun _ _ _ _ => trivial)⟩⟩ rfl hn hsize hst (lv_room hW) hdg hcs) hS (fun q _ h => hFc q h) hFc (fun r u t H1 locs1 ht hvm hw hB hz1 hk1 hS1 => ?_)
  obtain ⟨q1, q2⟩ := rw_behind (cI := cI) (cJ := cJ) (cZ := cZ) hP hD hS hA isC isR hC hR hn' hdis hk1 ht hB
  exact kk r u H1 locs1 hw q1 q2 hS1
theorem rw_callIv {post : S → Prop} {w1 : S → va_W} (F : CallFix p m c cc nL s args Ts own) (hM : Met l y ws0 rm (rw_Pc D cI cJ cZ H.size (.ref b :: As) wc) (rw_Qv D cI cJ cZ H.size wc w1 post) mc ms (va_A wc H.size)) (cw : CallB R s args own index y bytes maxL none ws0 rm mc ms n ∧ y.name = "<init>" ∧ (Cond.instanceMethod y).before args s = true)
    (hK : va_K D vwCl (rT cI cJ cZ) s) (hP : va_P D vwCl ws H) (hD : va_D A0 ws) (hS : va_S A0 H0 H locs) (hA : ∀ q, H0.size ≤ q → A0 q)
    (isC isR : List Nat) (hC : isC.map (fun i => ws[i]?) = wc.map some) (hC' : isC.filterMap (fun i => ws[i]?) = wc) (hR : isR.map (fun i => ws[i]?) = wr.map some) (hnC : va_nd isC = true) (hn' : va_nd isR = true) (hdis : ∀ i ∈ isR, i ∉ isC) (hn : As.length = n) (hsize : ls.size = nL) (hW : (rest.map fun v => v.category).sum ≤ 8) (hcs : cells + mc ≤ R.cells ∧ slots + ms ≤ R.slots) {st0 : List Value} (hst : st0 = As.reverse ++ .ref b :: rest) (hdg : decode cc pc = .ok (.invokespecial index, 3))
    (kk : ∀ (u : S) (H : Heap) (locs : List Loc), post u → va_P D vwCl (wr ++ w1 u) H → va_D A0 (wr ++ w1 u) → va_S A0 H0 H locs → W p l e R s m args below meth c H locs (cells + mc) (slots + ms) Q (F0 m (pc + 3) ls rest)) : W p l e R s m args below meth c H locs cells slots Q (F0 m pc ls st0) := by
  have hFc := va_free (wc := wc) hD hS hA isC hC
  refine va_callv (va_runI (As := As) (rest := rest) F hM cw ⟨rw_blind, fun U hU hW => ⟨rfl, by rw [hU], by rw [hU]; exact hP.sub isC hC', va_K.moved hW.alike hK, (hD.sub isC hnC hC).weaken (fun _ _ _ _ => trivial)⟩⟩ rfl hn hsize hst (lv_room hW) hdg hcs) hS (fun q _ h => hFc q h) hFc (fun u t H1 locs1 ht hvm hw hB hz1 hk1 hS1 => ?_)
  obtain ⟨q1, q2⟩ := rw_behind (cI := cI) (cJ := cJ) (cZ := cZ) hP hD hS hA isC isR hC hR hn' hdis hk1 ht hB
  exact kk u H1 locs1 hw q1 q2 hS1
end RwCalls
/-- what a throw needs of the start: Throwable's two statics lie outside of A, its classes' words that aren't good ones -/
def rx_s (A : Nat → Prop) (U : State) : Prop := vx_Zq Bundle.tN "UNASSIGNED_STACK" Bundle.steD A U U.heap ∧ vx_Zq Bundle.tN "SUPPRESSED_SENTINEL" Bundle.listD A U U.heap ∧ (va_Nw (.castable "java/lang/IndexOutOfBoundsException" "java/lang/IndexOutOfBoundsException") U ∧ va_Nw (.castable "java/lang/IllegalArgumentException" "java/lang/IllegalArgumentException") U ∧ va_Nw (.castable "java/lang/IllegalStateException" "java/lang/IllegalStateException") U ∧ va_Nw (.castable "java/util/NoSuchElementException" "java/util/NoSuchElementException") U) ∧
  va_Nc "java/lang/IllegalStateException" "java/lang/IllegalArgumentException" U ∧ va_Nc "java/util/NoSuchElementException" "java/lang/IllegalArgumentException" U ∧ va_Nc "java/util/NoSuchElementException" "java/lang/IllegalStateException" U ∧ va_Nw (.declares ⟨"java/lang/RuntimeException", "<init>", "()V"⟩) U ∧ va_Nw (.declares ⟨"java/lang/Exception", "<init>", "()V"⟩) U ∧ va_Nw (.declares ⟨"java/lang/Throwable", "<init>", "()V"⟩) U
theorem rx_s.to {A B : Nat → Prop} {s U : State} {H : Heap} {locs : List Loc} (h : rx_s A s) (hS : va_S A s.heap H locs) (hU : U.heap = H) (hW : s.WarmedH U.vm) (hBA : ∀ q, B q → A q) : rx_s B U := by
  obtain ⟨h1, h2, ⟨h3, h4, h5, h6⟩, h7, h8, h9, ha, hb, hc⟩ := h
  subst hU
  exact ⟨(vx_Zq.moved hW.alike (h1.kept hS.2.1)).narrow hBA, (vx_Zq.moved hW.alike (h2.kept hS.2.1)).narrow hBA, ⟨va_Nw.warmC hW h3, va_Nw.warmC hW h4, va_Nw.warmC hW h5, va_Nw.warmC hW h6⟩, va_Nc.moved hW.alike h7, va_Nc.moved hW.alike h8, va_Nc.moved hW.alike h9, va_Nw.warmD hW ha, va_Nw.warmD hW hb, va_Nw.warmD hW hc⟩
theorem rx_s.call {A : Nat → Prop} {U : State} {g : JFrame} {mk : MethodId} {a : Array Value} (h : rx_s A U) : rx_s A (U.calling g mk a) := by
  have hS : va_S A U.heap U.heap [] := va_S.rf
  exact rx_s.to (U := U.calling g mk a) h hS rfl (State.WarmedH.refl U) (fun _ q => q)
def rx_Pc (D : va_G) (cI cJ cZ : ClassId) (sz : Nat) (av : List Value) (ws : va_W) : Array Value → State → Prop := va_Pc av (fun U => U.heap.size = sz ∧ va_P D vwCl ws U.heap ∧ va_K D vwCl (rT cI cJ cZ) U ∧ va_D (fun _ => True) ws ∧ rx_s (va_A ws sz) U)
theorem rx_blind {D : va_G} {cI cJ cZ : ClassId} {sz : Nat} {av : List Value} {ws : va_W} : FrameBlind (rx_Pc D cI cJ cZ sz av ws) := fun a U g mk q => by
  obtain ⟨q0, q1, qP, qK, qD, qX⟩ := q
  exact ⟨q0, q1, qP, va_K.moved (u := U) (U := U.calling g mk a) (Vm.Alike.refl U.vm) qK, qD, qX.call⟩
/-- thrown: of a class E with PE E, the world as it was -/
def rx_X (D : va_G) (cI cJ cZ : ClassId) (sz : Nat) (ws : va_W) (PE : String → Prop) : String → State → State → Prop := vx_X (fun _ : Unit => True) (fun E _ t => PE E ∧ va_P D vwCl ws t.heap ∧ va_K D vwCl (rT cI cJ cZ) t ∧ va_D (va_A ws sz) ws) (va_A ws sz)
section RxRows
variable {p : Program} {l : Launch} {e : Env} {R : Room} {s : State} {m : MethodId} {args : Array Value} {below : List Frame} {meth : Method} {c : Code} {H : Heap} {locs : List Loc} {cells slots : Nat} {Q : State → Prop}
variable {y : MethodName} {bytes cc : ByteArray} {maxL nL mc ms n index : Nat} {ret : Option FieldType} {ws0 : List Cond} {rm : Room} {Ts : List Cond} {own C : String} {b : Addr} {As rest : List Value} {pc : Nat} {ls : Array Slot}
variable {D : va_G} {cI cJ cZ : ClassId} {ws wc wr : va_W} {A0 : Nat → Prop} {H0 : Heap} {S : Type}
theorem rx_callVv {post : S → Prop} {w1 : S → va_W} {PE : String → Prop} (F : CallFix p m c cc nL s args Ts own) (hM : vx_Met l y ws0 rm (rx_Pc D cI cJ cZ H.size (.ref b :: As) wc) (rw_Qv D cI cJ cZ H.size wc w1 post) (rx_X D cI cJ cZ H.size wc PE) mc ms (va_A wc H.size)) (cw : CallW R s args own C index y bytes maxL ret ws0 rm mc ms n)
    (hrec : ∃ cellB : Cell, H[b]? = some cellB ∧ cellB.vm.isStatics = false ∧ s.vm.findClass C = some cellB.cls) (hK : va_K D vwCl (rT cI cJ cZ) s) (hxs : rx_s A0 s) (hP : va_P D vwCl ws H) (hD : va_D A0 ws) (hS : va_S A0 s.heap H locs) (hA : ∀ q, s.heap.size ≤ q → A0 q)
    (isC isR : List Nat) (hC : isC.map (fun i => ws[i]?) = wc.map some) (hC' : isC.filterMap (fun i => ws[i]?) = wc) (hR : isR.map (fun i => ws[i]?) = wr.map some) (hnC : va_nd isC = true) (hn' : va_nd isR = true) (hdis : ∀ i ∈ isR, i ∉ isC) (hn : As.length = n) (hsize : ls.size = nL) (hW : (rest.map fun v => v.category).sum ≤ 8) (hcs : cells + mc ≤ R.cells ∧ slots + ms ≤ R.slots) {st0 : List Value} (hst : st0 = As.reverse ++ .ref b :: rest) (hdg : decode cc pc = .ok (.invokevirtual index, 3))
    (kx : ∀ (E : String) (ce : Cell) (q9 : Addr) (H : Heap) (locs : List Loc), PE E → va_P D vwCl (wr ++ wc) H → va_D A0 (wr ++ wc) → va_S A0 s.heap H locs → H[q9]? = some ce → ce.vm = .none → s.vm.findClass E = some ce.cls → vx_W p l e R s m args below meth c H locs (cells + mc) (slots + ms) Q (F0 m pc ls rest) q9)
    (kk : ∀ (u : S) (H : Heap) (locs : List Loc), post u → va_P D vwCl (wr ++ w1 u) H → va_D A0 (wr ++ w1 u) → va_S A0 s.heap H locs → W p l e R s m args below meth c H locs (cells + mc) (slots + ms) Q (F0 m (pc + 3) ls rest)) : W p l e R s m args below meth c H locs cells slots Q (F0 m pc ls st0) := by
  have hFc := va_free (wc := wc) hD hS hA isC hC
  refine vx_callv (vx_runV (As := As) (rest := rest) F hM cw ⟨rx_blind, hrec, fun U hU hW => ⟨rfl, by rw [hU], by rw [hU]; exact hP.sub isC hC', va_K.moved hW.alike hK, (hD.sub isC hnC hC).weaken (fun _ _ _ _ => trivial), hxs.to hS hU hW hFc⟩⟩ rfl hn hsize hst (lv_room hW) hdg hcs) hS (fun q _ h => hFc q h) hFc (fun q _ h => hFc q h) (fun E ce q9 u t H1 locs1 ht hvm hw hB hz1 hk1 hS1 hce hcv hcl => ?_) (fun u t H1 locs1 ht hvm hw hB hz1 hk1 hS1 => ?_)
  · obtain ⟨q1, q2⟩ := rw_behind (cI := cI) (cJ := cJ) (cZ := cZ) hP hD hS hA isC isR hC hR hn' hdis hk1 ht hB.2
    exact kx E ce q9 H1 locs1 hB.1 q1 q2 hS1 hce hcv hcl
  · obtain ⟨q1, q2⟩ := rw_behind (cI := cI) (cJ := cJ) (cZ := cZ) hP hD hS hA isC isR hC hR hn' hdis hk1 ht hB
    exact kk u H1 locs1 hw q1 q2 hS1
theorem rx_callVi {post : Int32 → S → Prop} {w1 : S → va_W} {PE : String → Prop} (F : CallFix p m c cc nL s args Ts own) (hM : vx_Met l y ws0 rm (rx_Pc D cI cJ cZ H.size (.ref b :: As) wc) (rw_Qi D cI cJ cZ H.size wc w1 post) (rx_X D cI cJ cZ H.size wc PE) mc ms (va_A wc H.size)) (cw : CallW R s args own C index y bytes maxL ret ws0 rm mc ms n)
    (hrec : ∃ cellB : Cell, H[b]? = some cellB ∧ cellB.vm.isStatics = false ∧ s.vm.findClass C = some cellB.cls) (hK : va_K D vwCl (rT cI cJ cZ) s) (hxs : rx_s A0 s) (hP : va_P D vwCl ws H) (hD : va_D A0 ws) (hS : va_S A0 s.heap H locs) (hA : ∀ q, s.heap.size ≤ q → A0 q)
    (isC isR : List Nat) (hC : isC.map (fun i => ws[i]?) = wc.map some) (hC' : isC.filterMap (fun i => ws[i]?) = wc) (hR : isR.map (fun i => ws[i]?) = wr.map some) (hnC : va_nd isC = true) (hn' : va_nd isR = true) (hdis : ∀ i ∈ isR, i ∉ isC) (hn : As.length = n) (hsize : ls.size = nL) (hW : (rest.map fun v => v.category).sum ≤ 8) (hcs : cells + mc ≤ R.cells ∧ slots + ms ≤ R.slots) {st0 : List Value} (hst : st0 = As.reverse ++ .ref b :: rest) (hdg : decode cc pc = .ok (.invokevirtual index, 3))
    (kx : ∀ (E : String) (ce : Cell) (q9 : Addr) (H : Heap) (locs : List Loc), PE E → va_P D vwCl (wr ++ wc) H → va_D A0 (wr ++ wc) → va_S A0 s.heap H locs → H[q9]? = some ce → ce.vm = .none → s.vm.findClass E = some ce.cls → vx_W p l e R s m args below meth c H locs (cells + mc) (slots + ms) Q (F0 m pc ls rest) q9)
    (kk : ∀ (r : Int32) (u : S) (H : Heap) (locs : List Loc), post r u → va_P D vwCl (wr ++ w1 u) H → va_D A0 (wr ++ w1 u) → va_S A0 s.heap H locs → W p l e R s m args below meth c H locs (cells + mc) (slots + ms) Q (F0 m (pc + 3) ls (.int r :: rest))) : W p l e R s m args below meth c H locs cells slots Q (F0 m pc ls st0) := by
  have hFc := va_free (wc := wc) hD hS hA isC hC
  refine vx_calli (vx_runV (As := As) (rest := rest) F hM cw ⟨rx_blind, hrec, fun U hU hW => ⟨rfl, by rw [hU], by rw [hU]; exact hP.sub isC hC', va_K.moved hW.alike hK, (hD.sub isC hnC hC).weaken (fun _ _ _ _ => trivial), hxs.to hS hU hW hFc⟩⟩ rfl hn hsize hst (lv_room hW) hdg hcs) hS (fun q _ h => hFc q h) hFc (fun q _ h => hFc q h) (fun E ce q9 u t H1 locs1 ht hvm hw hB hz1 hk1 hS1 hce hcv hcl => ?_) (fun r u t H1 locs1 ht hvm hw hB hz1 hk1 hS1 => ?_)
  · obtain ⟨q1, q2⟩ := rw_behind (cI := cI) (cJ := cJ) (cZ := cZ) hP hD hS hA isC isR hC hR hn' hdis hk1 ht hB.2
    exact kx E ce q9 H1 locs1 hB.1 q1 q2 hS1 hce hcv hcl
  · obtain ⟨q1, q2⟩ := rw_behind (cI := cI) (cJ := cJ) (cZ := cZ) hP hD hS hA isC isR hC hR hn' hdis hk1 ht hB
    exact kk r u H1 locs1 hw q1 q2 hS1
theorem rx_callVl {post : Int64 → S → Prop} {w1 : S → va_W} {PE : String → Prop} (F : CallFix p m c cc nL s args Ts own) (hM : vx_Met l y ws0 rm (rx_Pc D cI cJ cZ H.size (.ref b :: As) wc) (rw_Ql D cI cJ cZ H.size wc w1 post) (rx_X D cI cJ cZ H.size wc PE) mc ms (va_A wc H.size)) (cw : CallW R s args own C index y bytes maxL ret ws0 rm mc ms n)
    (hrec : ∃ cellB : Cell, H[b]? = some cellB ∧ cellB.vm.isStatics = false ∧ s.vm.findClass C = some cellB.cls) (hK : va_K D vwCl (rT cI cJ cZ) s) (hxs : rx_s A0 s) (hP : va_P D vwCl ws H) (hD : va_D A0 ws) (hS : va_S A0 s.heap H locs) (hA : ∀ q, s.heap.size ≤ q → A0 q)
    (isC isR : List Nat) (hC : isC.map (fun i => ws[i]?) = wc.map some) (hC' : isC.filterMap (fun i => ws[i]?) = wc) (hR : isR.map (fun i => ws[i]?) = wr.map some) (hnC : va_nd isC = true) (hn' : va_nd isR = true) (hdis : ∀ i ∈ isR, i ∉ isC) (hn : As.length = n) (hsize : ls.size = nL) (hW : (rest.map fun v => v.category).sum ≤ 8) (hcs : cells + mc ≤ R.cells ∧ slots + ms ≤ R.slots) {st0 : List Value} (hst : st0 = As.reverse ++ .ref b :: rest) (hdg : decode cc pc = .ok (.invokevirtual index, 3))
    (kx : ∀ (E : String) (ce : Cell) (q9 : Addr) (H : Heap) (locs : List Loc), PE E → va_P D vwCl (wr ++ wc) H → va_D A0 (wr ++ wc) → va_S A0 s.heap H locs → H[q9]? = some ce → ce.vm = .none → s.vm.findClass E = some ce.cls → vx_W p l e R s m args below meth c H locs (cells + mc) (slots + ms) Q (F0 m pc ls rest) q9)
    (kk : ∀ (r : Int64) (u : S) (H : Heap) (locs : List Loc), post r u → va_P D vwCl (wr ++ w1 u) H → va_D A0 (wr ++ w1 u) → va_S A0 s.heap H locs → W p l e R s m args below meth c H locs (cells + mc) (slots + ms) Q (F0 m (pc + 3) ls (.long r :: rest))) : W p l e R s m args below meth c H locs cells slots Q (F0 m pc ls st0) := by
  have hFc := va_free (wc := wc) hD hS hA isC hC
  refine vx_calll (vx_runV (As := As) (rest := rest) F hM cw ⟨rx_blind, hrec, fun U hU hW => ⟨rfl, by rw [hU], by rw [hU]; exact hP.sub isC hC', va_K.moved hW.alike hK, (hD.sub isC hnC hC).weaken (fun _ _ _ _ => trivial), hxs.to hS hU hW hFc⟩⟩ rfl hn hsize hst (lv_room hW) hdg hcs) hS (fun q _ h => hFc q h) hFc (fun q _ h => hFc q h) (fun E ce q9 u t H1 locs1 ht hvm hw hB hz1 hk1 hS1 hce hcv hcl => ?_) (fun r u t H1 locs1 ht hvm hw hB hz1 hk1 hS1 => ?_)
  · obtain ⟨q1, q2⟩ := rw_behind (cI := cI) (cJ := cJ) (cZ := cZ) hP hD hS hA isC isR hC hR hn' hdis hk1 ht hB.2
    exact kx E ce q9 H1 locs1 hB.1 q1 q2 hS1 hce hcv hcl
  · obtain ⟨q1, q2⟩ := rw_behind (cI := cI) (cJ := cJ) (cZ := cZ) hP hD hS hA isC isR hC hR hn' hdis hk1 ht hB
    exact kk r u H1 locs1 hw q1 q2 hS1
end RxRows
theorem xa_IO : ∀ w ∈ (vx_at0 RX3 135 "java/lang/IndexOutOfBoundsException" ["java/lang/RuntimeException", "java/lang/Exception"]).filter goodWord, w ∈ wB := by
  intro w hw
  refine List.mem_filter.mpr ?_
  revert w
  decide +kernel
theorem xb_IO : ∀ w ∈ (vx_at0 RX3 135 "java/lang/IndexOutOfBoundsException" ["java/lang/RuntimeException", "java/lang/Exception"]).filter (fun w => !goodWord w), w ∈ [Cond.castable "java/lang/IndexOutOfBoundsException" "java/lang/IndexOutOfBoundsException", .declares ⟨"java/lang/RuntimeException", "<init>", "()V"⟩, .declares ⟨"java/lang/Exception", "<init>", "()V"⟩, .declares ⟨"java/lang/Throwable", "<init>", "()V"⟩] := by decide +kernel
theorem xc_IO : ∀ w ∈ Cond.classLink RX3 133 "java/lang/IndexOutOfBoundsException" :: Cond.initialized "java/lang/IndexOutOfBoundsException" :: vx_at0 RX3 135 "java/lang/IndexOutOfBoundsException" ["java/lang/RuntimeException", "java/lang/Exception"], vx_ot w = true := by decide +kernel
theorem rx_throwIO {p : Program} {l : Launch} {e : Env} {R : Room} {s : State} {m : MethodId} {args : Array Value} {below : List Frame} {meth : Method} {c : Code} {H : Heap} {locs : List Loc} {cells slots mc ms : Nat} {cc : ByteArray} {pc : Nat} {ls : Array Slot} {rest : List Value} {c0 : Cond} {D : va_G} {cI cJ cZ : ClassId} {ws : va_W} {A : Nat → Prop} {Qc : Array Value → State → Outcome → State → Prop} {PE : String → Prop}
    (hexec : p.tables.exec = Jvm.exec) (hb : c.code = cc) (hl : l.stackTraces = false) (hown : s.vm.findClass RX3 = some m.cls) (hts : ∀ w ∈ c0 :: wB, w.before args s = true) (hxs : rx_s A s) (hAe : va_A ws s.heap.size = A) (hS : va_S A s.heap H locs) (hP : va_P D vwCl ws H) (hD : va_D A ws) (hK : va_K D vwCl (rT cI cJ cZ) s) (hsize : ls.size = c.maxLocals)
    (d0 : decode cc pc = .ok (.new 133, 3)) (d3 : decode cc (pc + 3) = .ok (.dup, 1)) (d4 : decode cc (pc + 4) = .ok (.invokespecial 135, 3)) (d7 : decode cc (pc + 7) = .ok (.athrow, 1)) (htab : ∀ x ∈ c.exceptionTable.toList, False)
    (hRf : 5 < R.frames) (hRl : (rest.map fun v => v.category).sum + 81 ≤ R.locals) (hRc : cells + 1 ≤ R.cells) (hRs : slots + 6 ≤ R.slots) (hlocks : meth.locks = false) (hPE : PE "java/lang/IndexOutOfBoundsException") (hc : cells + 1 ≤ mc) (hs : slots + 6 ≤ ms) :
    W p l e R s m args below meth c H locs cells slots (vx_MQ below Qc (rx_X D cI cJ cZ s.heap.size ws PE) args s mc ms (va_A ws s.heap.size)) (F0 m pc ls rest) := by
  subst hAe
  have h := hxs
  refine vx_throw0 (own := RX3) (cls := "java/lang/IndexOutOfBoundsException") (names := ["java/lang/RuntimeException", "java/lang/Exception"]) (ik := 133) (ic := 135) (A := va_A ws s.heap.size) hexec hb hl hown (by decide) (by decide) (hts _ (List.mem_cons_of_mem _ mw_149)) (hts _ (List.mem_cons_of_mem _ mw_9)) (vx_hat (fun w hw => hts _ (List.mem_cons_of_mem _ (xa_IO w hw))) xb_IO (vx_c (va_Nw.use rfl h.2.2.1.1) (vx_c (va_Nw.use rfl h.2.2.2.2.2.2.1) (vx_c (va_Nw.use rfl h.2.2.2.2.2.2.2.1) (vx_c (va_Nw.use rfl h.2.2.2.2.2.2.2.2) vx_n))))) xc_IO hxs.1 hxs.2.1 hS hsize d0 d3 d4 d7 (fun x hx => (htab x hx).elim) hRf hRl hRc hRs hlocks (fun t hal hz hk => ?_) hS.2.2 hc hs
  refine ⟨(), trivial, ⟨hPE, hP.kept (fun k q hq => hk q.1 ((hP k q hq).lt)), va_K.moved hal hK, hD⟩, Nat.le_trans hS.1 hz, fun q h1 h2 => ?_⟩
  rw [hk q (Nat.lt_of_lt_of_le h1 hS.1)]
  exact hS.2.1 q h1 h2
theorem xa_IA : ∀ w ∈ (vx_at0 RX3 60 "java/lang/IllegalArgumentException" ["java/lang/RuntimeException", "java/lang/Exception"]).filter goodWord, w ∈ wB := by
  intro w hw
  refine List.mem_filter.mpr ?_
  revert w
  decide +kernel
theorem xb_IA : ∀ w ∈ (vx_at0 RX3 60 "java/lang/IllegalArgumentException" ["java/lang/RuntimeException", "java/lang/Exception"]).filter (fun w => !goodWord w), w ∈ [Cond.castable "java/lang/IllegalArgumentException" "java/lang/IllegalArgumentException", .declares ⟨"java/lang/RuntimeException", "<init>", "()V"⟩, .declares ⟨"java/lang/Exception", "<init>", "()V"⟩, .declares ⟨"java/lang/Throwable", "<init>", "()V"⟩] := by decide +kernel
theorem xc_IA : ∀ w ∈ Cond.classLink RX3 58 "java/lang/IllegalArgumentException" :: Cond.initialized "java/lang/IllegalArgumentException" :: vx_at0 RX3 60 "java/lang/IllegalArgumentException" ["java/lang/RuntimeException", "java/lang/Exception"], vx_ot w = true := by decide +kernel
theorem rx_throwIA {p : Program} {l : Launch} {e : Env} {R : Room} {s : State} {m : MethodId} {args : Array Value} {below : List Frame} {meth : Method} {c : Code} {H : Heap} {locs : List Loc} {cells slots mc ms : Nat} {cc : ByteArray} {pc : Nat} {ls : Array Slot} {rest : List Value} {c0 : Cond} {D : va_G} {cI cJ cZ : ClassId} {ws : va_W} {A : Nat → Prop} {Qc : Array Value → State → Outcome → State → Prop} {PE : String → Prop}
    (hexec : p.tables.exec = Jvm.exec) (hb : c.code = cc) (hl : l.stackTraces = false) (hown : s.vm.findClass RX3 = some m.cls) (hts : ∀ w ∈ c0 :: wB, w.before args s = true) (hxs : rx_s A s) (hAe : va_A ws s.heap.size = A) (hS : va_S A s.heap H locs) (hP : va_P D vwCl ws H) (hD : va_D A ws) (hK : va_K D vwCl (rT cI cJ cZ) s) (hsize : ls.size = c.maxLocals)
    (d0 : decode cc pc = .ok (.new 58, 3)) (d3 : decode cc (pc + 3) = .ok (.dup, 1)) (d4 : decode cc (pc + 4) = .ok (.invokespecial 60, 3)) (d7 : decode cc (pc + 7) = .ok (.athrow, 1)) (htab : ∀ x ∈ c.exceptionTable.toList, False)
    (hRf : 5 < R.frames) (hRl : (rest.map fun v => v.category).sum + 81 ≤ R.locals) (hRc : cells + 1 ≤ R.cells) (hRs : slots + 6 ≤ R.slots) (hlocks : meth.locks = false) (hPE : PE "java/lang/IllegalArgumentException") (hc : cells + 1 ≤ mc) (hs : slots + 6 ≤ ms) :
    W p l e R s m args below meth c H locs cells slots (vx_MQ below Qc (rx_X D cI cJ cZ s.heap.size ws PE) args s mc ms (va_A ws s.heap.size)) (F0 m pc ls rest) := by
  subst hAe
  have h := hxs
  refine vx_throw0 (own := RX3) (cls := "java/lang/IllegalArgumentException") (names := ["java/lang/RuntimeException", "java/lang/Exception"]) (ik := 58) (ic := 60) (A := va_A ws s.heap.size) hexec hb hl hown (by decide) (by decide) (hts _ (List.mem_cons_of_mem _ mw_257)) (hts _ (List.mem_cons_of_mem _ mw_10)) (vx_hat (fun w hw => hts _ (List.mem_cons_of_mem _ (xa_IA w hw))) xb_IA (vx_c (va_Nw.use rfl h.2.2.1.2.1) (vx_c (va_Nw.use rfl h.2.2.2.2.2.2.1) (vx_c (va_Nw.use rfl h.2.2.2.2.2.2.2.1) (vx_c (va_Nw.use rfl h.2.2.2.2.2.2.2.2) vx_n))))) xc_IA hxs.1 hxs.2.1 hS hsize d0 d3 d4 d7 (fun x hx => (htab x hx).elim) hRf hRl hRc hRs hlocks (fun t hal hz hk => ?_) hS.2.2 hc hs
  refine ⟨(), trivial, ⟨hPE, hP.kept (fun k q hq => hk q.1 ((hP k q hq).lt)), va_K.moved hal hK, hD⟩, Nat.le_trans hS.1 hz, fun q h1 h2 => ?_⟩
  rw [hk q (Nat.lt_of_lt_of_le h1 hS.1)]
  exact hS.2.1 q h1 h2
theorem xa_IS : ∀ w ∈ (vx_at0 RX3 66 "java/lang/IllegalStateException" ["java/lang/RuntimeException", "java/lang/Exception"]).filter goodWord, w ∈ wB := by
  intro w hw
  refine List.mem_filter.mpr ?_
  revert w
  decide +kernel
theorem xb_IS : ∀ w ∈ (vx_at0 RX3 66 "java/lang/IllegalStateException" ["java/lang/RuntimeException", "java/lang/Exception"]).filter (fun w => !goodWord w), w ∈ [Cond.castable "java/lang/IllegalStateException" "java/lang/IllegalStateException", .declares ⟨"java/lang/RuntimeException", "<init>", "()V"⟩, .declares ⟨"java/lang/Exception", "<init>", "()V"⟩, .declares ⟨"java/lang/Throwable", "<init>", "()V"⟩] := by decide +kernel
theorem xc_IS : ∀ w ∈ Cond.classLink RX3 64 "java/lang/IllegalStateException" :: Cond.initialized "java/lang/IllegalStateException" :: vx_at0 RX3 66 "java/lang/IllegalStateException" ["java/lang/RuntimeException", "java/lang/Exception"], vx_ot w = true := by decide +kernel
theorem rx_throwIS {p : Program} {l : Launch} {e : Env} {R : Room} {s : State} {m : MethodId} {args : Array Value} {below : List Frame} {meth : Method} {c : Code} {H : Heap} {locs : List Loc} {cells slots mc ms : Nat} {cc : ByteArray} {pc : Nat} {ls : Array Slot} {rest : List Value} {c0 : Cond} {D : va_G} {cI cJ cZ : ClassId} {ws : va_W} {A : Nat → Prop} {Qc : Array Value → State → Outcome → State → Prop} {PE : String → Prop}
    (hexec : p.tables.exec = Jvm.exec) (hb : c.code = cc) (hl : l.stackTraces = false) (hown : s.vm.findClass RX3 = some m.cls) (hts : ∀ w ∈ c0 :: wB, w.before args s = true) (hxs : rx_s A s) (hAe : va_A ws s.heap.size = A) (hS : va_S A s.heap H locs) (hP : va_P D vwCl ws H) (hD : va_D A ws) (hK : va_K D vwCl (rT cI cJ cZ) s) (hsize : ls.size = c.maxLocals)
    (d0 : decode cc pc = .ok (.new 64, 3)) (d3 : decode cc (pc + 3) = .ok (.dup, 1)) (d4 : decode cc (pc + 4) = .ok (.invokespecial 66, 3)) (d7 : decode cc (pc + 7) = .ok (.athrow, 1)) (htab : ∀ x ∈ c.exceptionTable.toList, False)
    (hRf : 5 < R.frames) (hRl : (rest.map fun v => v.category).sum + 81 ≤ R.locals) (hRc : cells + 1 ≤ R.cells) (hRs : slots + 6 ≤ R.slots) (hlocks : meth.locks = false) (hPE : PE "java/lang/IllegalStateException") (hc : cells + 1 ≤ mc) (hs : slots + 6 ≤ ms) :
    W p l e R s m args below meth c H locs cells slots (vx_MQ below Qc (rx_X D cI cJ cZ s.heap.size ws PE) args s mc ms (va_A ws s.heap.size)) (F0 m pc ls rest) := by
  subst hAe
  have h := hxs
  refine vx_throw0 (own := RX3) (cls := "java/lang/IllegalStateException") (names := ["java/lang/RuntimeException", "java/lang/Exception"]) (ik := 64) (ic := 66) (A := va_A ws s.heap.size) hexec hb hl hown (by decide) (by decide) (hts _ (List.mem_cons_of_mem _ mw_272)) (hts _ (List.mem_cons_of_mem _ mw_11)) (vx_hat (fun w hw => hts _ (List.mem_cons_of_mem _ (xa_IS w hw))) xb_IS (vx_c (va_Nw.use rfl h.2.2.1.2.2.1) (vx_c (va_Nw.use rfl h.2.2.2.2.2.2.1) (vx_c (va_Nw.use rfl h.2.2.2.2.2.2.2.1) (vx_c (va_Nw.use rfl h.2.2.2.2.2.2.2.2) vx_n))))) xc_IS hxs.1 hxs.2.1 hS hsize d0 d3 d4 d7 (fun x hx => (htab x hx).elim) hRf hRl hRc hRs hlocks (fun t hal hz hk => ?_) hS.2.2 hc hs
  refine ⟨(), trivial, ⟨hPE, hP.kept (fun k q hq => hk q.1 ((hP k q hq).lt)), va_K.moved hal hK, hD⟩, Nat.le_trans hS.1 hz, fun q h1 h2 => ?_⟩
  rw [hk q (Nat.lt_of_lt_of_le h1 hS.1)]
  exact hS.2.1 q h1 h2
theorem xa_NS : ∀ w ∈ (vx_at0 RX3 101 "java/util/NoSuchElementException" ["java/lang/RuntimeException", "java/lang/Exception"]).filter goodWord, w ∈ wB := by
  intro w hw
  refine List.mem_filter.mpr ?_
  revert w
  decide +kernel
theorem xb_NS : ∀ w ∈ (vx_at0 RX3 101 "java/util/NoSuchElementException" ["java/lang/RuntimeException", "java/lang/Exception"]).filter (fun w => !goodWord w), w ∈ [Cond.castable "java/util/NoSuchElementException" "java/util/NoSuchElementException", .declares ⟨"java/lang/RuntimeException", "<init>", "()V"⟩, .declares ⟨"java/lang/Exception", "<init>", "()V"⟩, .declares ⟨"java/lang/Throwable", "<init>", "()V"⟩] := by decide +kernel
theorem xc_NS : ∀ w ∈ Cond.classLink RX3 99 "java/util/NoSuchElementException" :: Cond.initialized "java/util/NoSuchElementException" :: vx_at0 RX3 101 "java/util/NoSuchElementException" ["java/lang/RuntimeException", "java/lang/Exception"], vx_ot w = true := by decide +kernel
theorem rx_throwNS {p : Program} {l : Launch} {e : Env} {R : Room} {s : State} {m : MethodId} {args : Array Value} {below : List Frame} {meth : Method} {c : Code} {H : Heap} {locs : List Loc} {cells slots mc ms : Nat} {cc : ByteArray} {pc : Nat} {ls : Array Slot} {rest : List Value} {c0 : Cond} {D : va_G} {cI cJ cZ : ClassId} {ws : va_W} {A : Nat → Prop} {Qc : Array Value → State → Outcome → State → Prop} {PE : String → Prop}
    (hexec : p.tables.exec = Jvm.exec) (hb : c.code = cc) (hl : l.stackTraces = false) (hown : s.vm.findClass RX3 = some m.cls) (hts : ∀ w ∈ c0 :: wB, w.before args s = true) (hxs : rx_s A s) (hAe : va_A ws s.heap.size = A) (hS : va_S A s.heap H locs) (hP : va_P D vwCl ws H) (hD : va_D A ws) (hK : va_K D vwCl (rT cI cJ cZ) s) (hsize : ls.size = c.maxLocals)
    (d0 : decode cc pc = .ok (.new 99, 3)) (d3 : decode cc (pc + 3) = .ok (.dup, 1)) (d4 : decode cc (pc + 4) = .ok (.invokespecial 101, 3)) (d7 : decode cc (pc + 7) = .ok (.athrow, 1)) (htab : ∀ x ∈ c.exceptionTable.toList, False)
    (hRf : 5 < R.frames) (hRl : (rest.map fun v => v.category).sum + 81 ≤ R.locals) (hRc : cells + 1 ≤ R.cells) (hRs : slots + 6 ≤ R.slots) (hlocks : meth.locks = false) (hPE : PE "java/util/NoSuchElementException") (hc : cells + 1 ≤ mc) (hs : slots + 6 ≤ ms) :
    W p l e R s m args below meth c H locs cells slots (vx_MQ below Qc (rx_X D cI cJ cZ s.heap.size ws PE) args s mc ms (va_A ws s.heap.size)) (F0 m pc ls rest) := by
  subst hAe
  have h := hxs
  refine vx_throw0 (own := RX3) (cls := "java/util/NoSuchElementException") (names := ["java/lang/RuntimeException", "java/lang/Exception"]) (ik := 99) (ic := 101) (A := va_A ws s.heap.size) hexec hb hl hown (by decide) (by decide) (hts _ (List.mem_cons_of_mem _ mw_357)) (hts _ (List.mem_cons_of_mem _ mw_12)) (vx_hat (fun w hw => hts _ (List.mem_cons_of_mem _ (xa_NS w hw))) xb_NS (vx_c (va_Nw.use rfl h.2.2.1.2.2.2) (vx_c (va_Nw.use rfl h.2.2.2.2.2.2.1) (vx_c (va_Nw.use rfl h.2.2.2.2.2.2.2.1) (vx_c (va_Nw.use rfl h.2.2.2.2.2.2.2.2) vx_n))))) xc_NS hxs.1 hxs.2.1 hS hsize d0 d3 d4 d7 (fun x hx => (htab x hx).elim) hRf hRl hRc hRs hlocks (fun t hal hz hk => ?_) hS.2.2 hc hs
  refine ⟨(), trivial, ⟨hPE, hP.kept (fun k q hq => hk q.1 ((hP k q hq).lt)), va_K.moved hal hK, hD⟩, Nat.le_trans hS.1 hz, fun q h1 h2 => ?_⟩
  rw [hk q (Nat.lt_of_lt_of_le h1 hS.1)]
  exact hS.2.1 q h1 h2
/-! numbers -/
theorem zn_le0 {n : Nat} (h : n < 2 ^ 31) : nI n ≤ 0 ↔ n = 0 := by
  rw [← nI_0, nI_leI h (by omega)]; omega
theorem zn_0lt {n : Nat} (h : n < 2 ^ 31) : 0 < nI n ↔ 0 < n := by
  rw [← nI_0, nI_ltI (by omega) h]
theorem zn_eq0 {n : Nat} (h : n < 2 ^ 31) : nI n = 0 ↔ n = 0 := by
  rw [← nI_0, nI_eq h (by omega)]
theorem zn_nm1 {n : Nat} (h : n < 2 ^ 31) : nI n ≠ -1 := fun q => by
  have h1 := nI_pos h
  rw [q] at h1
  exact h1 (by decide)
section RwEnds
variable {p : Program} {l : Launch} {e : Env} {R : Room} {s : State} {m : MethodId} {args : Array Value} {below : List Frame} {meth : Method} {c : Code} {H : Heap} {locs : List Loc} {cells slots mc ms : Nat} {cc : ByteArray} {pc : Nat} {ls : Array Slot}
variable {D : va_G} {cI cJ cZ : ClassId} {ws : va_W} {A : Nat → Prop} {S : Type} {w1 : S → va_W} {u : S}
theorem rw_retv {post : S → Prop} (hAe : A = va_A ws s.heap.size) (hP : va_P D vwCl (w1 u) H) (hD : va_D A (w1 u)) (hS : va_S A s.heap H locs) (hK : va_K D vwCl (rT cI cJ cZ) s) (hp : post u) (hc : cells ≤ mc) (hs : slots ≤ ms) (hx : p.tables.exec = Jvm.exec) (hb : c.code = cc) (hr : meth.sig.returnType = none) (hlocks : meth.locks = false) (d : decode cc pc = .ok (.return_, 1)) :
    W p l e R s m args below meth c H locs cells slots (MQ below (rw_Qv D cI cJ cZ s.heap.size ws w1 post) args s mc ms (va_A ws s.heap.size)) (F0 m pc ls []) := by
  subst hAe
  exact W.widen hc hs (W.vret hx hb hr (fun t ht hW => ⟨⟨u, rfl, hp, by rw [ht]; exact hP, va_K.moved hW.alike hK, hD⟩, hS.F ht⟩) hS.2.2 d)
theorem rw_reti {v : Int32} {post : Int32 → S → Prop} (hAe : A = va_A ws s.heap.size) (hP : va_P D vwCl (w1 u) H) (hD : va_D A (w1 u)) (hS : va_S A s.heap H locs) (hK : va_K D vwCl (rT cI cJ cZ) s) (hp : post v u) (hc : cells ≤ mc) (hs : slots ≤ ms) (hx : p.tables.exec = Jvm.exec) (hb : c.code = cc) (hr : meth.sig.returnType = some .int) (hlocks : meth.locks = false) (d : decode cc pc = .ok (.ireturn, 1)) :
    W p l e R s m args below meth c H locs cells slots (MQ below (rw_Qi D cI cJ cZ s.heap.size ws w1 post) args s mc ms (va_A ws s.heap.size)) (F0 m pc ls [.int v]) := by
  subst hAe
  exact W.widen hc hs (W.iret hx hb hr (fun t ht hW => ⟨⟨v, u, rfl, hp, by rw [ht]; exact hP, va_K.moved hW.alike hK, hD⟩, hS.F ht⟩) hS.2.2 d)
theorem rw_retz {v : Int32} {post : Int32 → S → Prop} (hAe : A = va_A ws s.heap.size) (hP : va_P D vwCl (w1 u) H) (hD : va_D A (w1 u)) (hS : va_S A s.heap H locs) (hK : va_K D vwCl (rT cI cJ cZ) s) (hp : post v u) (hc : cells ≤ mc) (hs : slots ≤ ms) (hx : p.tables.exec = Jvm.exec) (hb : c.code = cc) (hr : meth.sig.returnType = some .boolean) (hlocks : meth.locks = false) (hn : narrow .boolean (.int v) = .int v) (d : decode cc pc = .ok (.ireturn, 1)) :
    W p l e R s m args below meth c H locs cells slots (MQ below (rw_Qi D cI cJ cZ s.heap.size ws w1 post) args s mc ms (va_A ws s.heap.size)) (F0 m pc ls [.int v]) := by
  subst hAe
  exact W.widen hc hs (W.zret hx hb hr hn (fun t ht hW => ⟨⟨v, u, rfl, hp, by rw [ht]; exact hP, va_K.moved hW.alike hK, hD⟩, hS.F ht⟩) hS.2.2 d)
theorem rw_retl {v : Int64} {post : Int64 → S → Prop} (hAe : A = va_A ws s.heap.size) (hP : va_P D vwCl (w1 u) H) (hD : va_D A (w1 u)) (hS : va_S A s.heap H locs) (hK : va_K D vwCl (rT cI cJ cZ) s) (hp : post v u) (hc : cells ≤ mc) (hs : slots ≤ ms) (hx : p.tables.exec = Jvm.exec) (hb : c.code = cc) (hr : meth.sig.returnType = some .long) (hlocks : meth.locks = false) (d : decode cc pc = .ok (.lreturn, 1)) :
    W p l e R s m args below meth c H locs cells slots (MQ below (rw_Ql D cI cJ cZ s.heap.size ws w1 post) args s mc ms (va_A ws s.heap.size)) (F0 m pc ls [.long v]) := by
  subst hAe
  exact W.widen hc hs (W.lret hx hb hr (fun t ht hW => ⟨⟨v, u, rfl, hp, by rw [ht]; exact hP, va_K.moved hW.alike hK, hD⟩, hS.F ht⟩) hS.2.2 d)
theorem rx_out {Qc : Array Value → State → Outcome → State → Prop} {PE : String → Prop} {E : String} {ce : Cell} {q : Addr} {rest : List Value} (htab : ∀ x ∈ c.exceptionTable.toList, False) (hlocks : meth.locks = false) (hAe : A = va_A ws s.heap.size) (hP : va_P D vwCl ws H) (hD : va_D A ws) (hS : va_S A s.heap H locs) (hK : va_K D vwCl (rT cI cJ cZ) s)
    (hce : H[q]? = some ce) (hcv : ce.vm = .none) (hcl : s.vm.findClass E = some ce.cls) (hPE : PE E) (hc : cells ≤ mc) (hs : slots ≤ ms) :
    vx_W p l e R s m args below meth c H locs cells slots (vx_MQ below Qc (rx_X D cI cJ cZ s.heap.size ws PE) args s mc ms (va_A ws s.heap.size)) (F0 m pc ls rest) q := by
  subst hAe
  exact vx_out (fun x hx => (htab x hx).elim) hlocks hce hcv hcl (fun t ht hal => ⟨(), trivial, ⟨hPE, by rw [ht]; exact hP, va_K.moved hal hK, hD⟩, hS.F ht⟩) hS.2.2 hc hs
end RwEnds
end
section
/-! What the log says, over its arrays: e is the event that holds at a; a count; a place of the sorted row. -/
def hld (sf rf pf : Nat → Int32) (e : Nat) (a : Int32) : Prop := sf e ≠ 0 ∧ rf e ≤ a ∧ a < pf e
noncomputable def cnt (Pr : Nat → Prop) : Nat → Nat
  | 0 => 0
  | n + 1 => cnt Pr n + @ite Nat (Pr n) (Classical.propDecidable _) 1 0
theorem cnt_1 {Pr : Nat → Prop} {n : Nat} (h : Pr n) : cnt Pr (n + 1) = cnt Pr n + 1 := by simp [cnt, h]
theorem cnt_0 {Pr : Nat → Prop} {n : Nat} (h : ¬ Pr n) : cnt Pr (n + 1) = cnt Pr n := by simp [cnt, h]
theorem cnt_le (Pr : Nat → Prop) (n : Nat) : cnt Pr n ≤ n := by
  induction n with
  | zero => exact Nat.le_refl 0
  | succ n ih =>
    by_cases h : Pr n
    · rw [cnt_1 h]; omega
    · rw [cnt_0 h]; omega
theorem ls_or {j i : Nat} (h : j < i + 1) : j < i ∨ j = i := by omega
theorem i_nlt {a b : Int32} (h : ¬ a < b) : b ≤ a := Int32.not_lt.mp h
theorem i_nle {a b : Int32} (h : ¬ a ≤ b) : b < a := Int32.not_le.mp h
theorem i_ltn {a b : Int32} (h : a < b) : ¬ b ≤ a := Int32.not_le.mpr h
theorem i_len {a b : Int32} (h : a ≤ b) : ¬ b < a := Int32.not_lt.mpr h
/-- the row of events by key: ev is put in among the places below ev -/
def srt (kf : Nat → Int32) (bn : Nat → Nat) (b1 : Nat → Int32) (ev : Nat) : Prop := ∃ pl, pl ≤ ev ∧ b1 pl = nI ev ∧ (∀ q, q < pl → b1 q = nI (bn q)) ∧ (∀ q, pl < q → q ≤ ev → b1 q = nI (bn (q - 1))) ∧ (pl = 0 ∨ kf (bn (pl - 1)) ≤ kf ev) ∧ ∀ q, pl ≤ q → q < ev → kf ev < kf (bn q)
/-- the log's data: size, keys, revisions, sets, values, versions, creations, replacedIn, byKey -/
abbrev LD : Type := Nat × (Nat → Int32) × (Nat → Int32) × (Nat → Int32) × (Nat → Int64) × (Nat → Int32) × (Nat → Int32) × (Nat → Int32) × (Nat → Int32)
abbrev eN (d : LD) : Nat := d.1
abbrev eK (d : LD) : Nat → Int32 := d.2.1
abbrev eR (d : LD) : Nat → Int32 := d.2.2.1
abbrev eS (d : LD) : Nat → Int32 := d.2.2.2.1
abbrev eV (d : LD) : Nat → Int64 := d.2.2.2.2.1
abbrev eW (d : LD) : Nat → Int32 := d.2.2.2.2.2.1
abbrev eC (d : LD) : Nat → Int32 := d.2.2.2.2.2.2.1
abbrev eP (d : LD) : Nat → Int32 := d.2.2.2.2.2.2.2.1
abbrev eB (d : LD) : Nat → Int32 := d.2.2.2.2.2.2.2.2
/-- j holds for key at a -/
def hol (d : LD) (key a : Int32) (j : Nat) : Prop := eK d j = key ∧ hld (eS d) (eR d) (eP d) j a
def thr (d : LD) (key a : Int32) : Prop := ∃ j, j < eN d ∧ hol d key a j
def bnk (d : LD) (bn : Nat → Nat) : Prop := ∀ q, q < eN d → eB d q = nI (bn q) ∧ bn q < eN d
def setR (r : Nat) (key : Int32) (v : Int64) (d d1 : LD) : Prop :=
  eN d1 = eN d + 1 ∧ eK d1 = upd (eK d) (eN d) key ∧ eR d1 = upd (eR d) (eN d) (nI r) ∧ eS d1 = upd (eS d) (eN d) (nI 1) ∧ eV d1 = vp_updL (eV d) (eN d) v ∧ (∃ bn, bnk d bn ∧ srt (upd (eK d) (eN d) key) bn (eB d1) (eN d)) ∧
  (((∀ j, j < eN d → ¬ hol d key (nI r) j) ∧ eP d1 = upd (eP d) (eN d) (nI 301) ∧ eW d1 = upd (eW d) (eN d) (nI 1) ∧ eC d1 = upd (eC d) (eN d) (nI r)) ∨ (∃ j, j < eN d ∧ hol d key (nI r) j ∧ eP d1 = upd (upd (eP d) j (nI r)) (eN d) (nI 301) ∧ eW d1 = upd (eW d) (eN d) (eW d j + nI 1) ∧ eC d1 = upd (eC d) (eN d) (eC d j)))
def remR (r : Nat) (key : Int32) (d d1 : LD) : Prop :=
  (d1 = d ∧ ∀ j, j < eN d → ¬ hol d key (nI r) j) ∨ (eN d1 = eN d + 1 ∧ eK d1 = upd (eK d) (eN d) key ∧ eR d1 = upd (eR d) (eN d) (nI r) ∧ eS d1 = eS d ∧ eV d1 = eV d ∧ eW d1 = eW d ∧ eC d1 = eC d ∧ (∃ bn, bnk d bn ∧ srt (upd (eK d) (eN d) key) bn (eB d1) (eN d)) ∧ ∃ j, j < eN d ∧ hol d key (nI r) j ∧ eP d1 = upd (upd (eP d) j (nI r)) (eN d) (nI 301))
/-- the first i steps done -/
def aps (r : Nat) (ka sa : Nat → Int32) (va : Nat → Int64) (d : LD) : Nat → LD → Prop
  | 0, d1 => d1 = d
  | i + 1, d1 => ∃ d2, aps r ka sa va d i d2 ∧ ((sa i ≠ 0 ∧ setR r (ka i) (va i) d2 d1) ∨ (sa i = 0 ∧ remR r (ka i) d2 d1))
/-- what a key's value, version, creation or set is told to be -/
def rdv (d : LD) (key a w : Int32) (x : Int64) : Prop := (x = 0 ∧ ∀ j, j < eN d → ¬ hol d key a j) ∨ (∃ j, j < eN d ∧ hol d key a j ∧ ((w = nI 0 ∧ x = eV d j) ∨ (w ≠ nI 0 ∧ w = nI 1 ∧ x = (eW d j).toInt64) ∨ (w ≠ nI 0 ∧ w ≠ nI 1 ∧ w = nI 2 ∧ x = (eC d j).toInt64) ∨ (w ≠ nI 0 ∧ w ≠ nI 1 ∧ w ≠ nI 2 ∧ x = (eR d j).toInt64)))
/-- a test's relation -/
def tst (rel : Int32) (h b : Int64) : Prop := (rel < 0 ∧ h < b) ∨ (¬ rel < 0 ∧ 0 < rel ∧ b < h) ∨ (¬ rel < 0 ∧ ¬ 0 < rel ∧ h = b)
/-- is the key of step i there when the steps before are done -/
def itb (ka sa : Nat → Int32) (th : Int32 → Prop) (i : Nat) : Prop := (∃ j, j < i ∧ ka j = ka i ∧ (∀ t, j < t → t < i → ka t ≠ ka i) ∧ sa j ≠ 0) ∨ ((∀ j, j < i → ka j ≠ ka i) ∧ th (ka i))
theorem zn_dec (x : Int32) : x + Int32.ofInt (-1) = x - nI 1 := by
  rw [Int32.sub_eq_add_neg]
  rfl
theorem zn_m0 {j : Nat} (h : j < 2 ^ 31) : nI j - nI 1 < 0 ↔ j = 0 := by
  cases j with
  | zero => decide
  | succ j => rw [pk_sub (by omega)]; simp only [Nat.add_sub_cancel]; constructor <;> intro q; (exact absurd q (nI_pos (by omega))); omega
end
section
set_option maxHeartbeats 4000000 in
set_option maxRecDepth 100000 in
theorem c_X0_holds (l : Launch) (D : va_G) (cI cJ cZ : ClassId) (g0 gk gr gs gv gw gc gp gb r n : Nat) (kf rf sf : Nat → Int32) (vf : Nat → Int64) (wf cf pf bf : Nat → Int32) (ev : Nat) (he : ev < 300) (a : Int32) : Met l yX0_holds (Cond.code yX0_holds cX0_holds 3 (some .boolean) :: wB) ({ frames := 0, cells := 0, slots := 0, locals := 0 } : Room) (ro_Pc D cI cJ cZ [.ref g0, .int (nI ev), .int a] [(g0, .inr (0, [.int (nI r), .int (nI n), .ref gk, .ref gr, .ref gs, .ref gv, .ref gw, .ref gc, .ref gp, .ref gb])), (gk, .inl (cI, 300, .inl kf)), (gr, .inl (cI, 300, .inl rf)), (gs, .inl (cZ, 300, .inl sf)), (gv, .inl (cJ, 300, .inr (.inl vf))), (gw, .inl (cI, 300, .inl wf)), (gc, .inl (cI, 300, .inl cf)), (gp, .inl (cI, 300, .inl pf)), (gb, .inl (cI, 300, .inl bf))]) (vp_Si (fun x => (x = nI 1 ∧ hld sf rf pf ev a) ∨ (x = nI 0 ∧ ¬ hld sf rf pf ev a))) 0 0 (fun _ => False) := by
  refine Met.ofW (cc := cX0_holds) (maxL := 3) (ret := (some .boolean)) (by decide) rfl ?_
  intro p e s m args below meth c s₁ B hml hv
  obtain ⟨rfl, hP, hK⟩ := hv
  have hx := B.exec
  have hb := B.bytes
  have hr := B.returns
  have hts := atoms_spec (ws := (Cond.code yX0_holds cX0_holds 3 (some .boolean) :: wB)) B.pre
  have hown : s.vm.findClass RX0 = some m.cls := findClass_of_methodNamed B.named
  have hlocks := B.notSynchronized
  have hl := lv_entry ([.ref g0, .int (nI ev), .int a]) (n := 3) (Nat.le_of_ble_eq_true rfl)
  rw [lg_entry_eq]
  generalize (lg_sl ([.ref g0, .int (nI ev), .int a]) ++ List.replicate (3 - (lg_sl ([.ref g0, .int (nI ev), .int a])).length) Slot.unset).toArray = ls at hl ⊢
  have hl : lv_has ls 3 [(0, .ref g0), (1, .int (nI ev)), (2, .int a)] := hl
  refine lv_aload_n hx hb dX0_holds_0 rfl (lv_at hl 0 rfl) ?_
  refine va_get (D := D) (ci := 0) (v := .ref gs) (C := RX0) (T := TX0) (N := 10) hx hb hts mu_X0 hown hK hP 0 rfl rfl 4 (by decide) (hts _ (List.mem_cons_of_mem _ mw_35)) (fun _ h9 => h9) rfl dX0_holds_1 ?_
  refine lv_iload_n hx hb dX0_holds_4 rfl (lv_at hl 1 rfl) ?_
  refine rk_zald hx hb hK hP 3 2 rfl rfl (i := ev) (by omega) (by decide) dX0_holds_5 ?_
  refine lv_if_eq (tgt := 33) hx hb dX0_holds_6 (by decide) (fun c_6 => ?_) (fun c_6 => ?_)
  · skip
    refine lv_iconst (v := nI 0) hx hb dX0_holds_33 (by decide) ?_
    exact W.zret (v := (nI 0)) hx hb hr (by decide) (fun t ht hW => ⟨_, rfl, (by first | exact Or.inl ⟨rfl, c_6, i_nlt c_16, i_nle c_26⟩ | exact Or.inr ⟨rfl, fun h => h.1 c_6⟩ | exact Or.inr ⟨rfl, fun h => i_ltn c_16 h.2.1⟩ | exact Or.inr ⟨rfl, fun h => i_len c_26 h.2.2⟩), ht⟩) (fun q h => nomatch h) dX0_holds_34
  · skip
    refine lv_aload_n hx hb dX0_holds_9 rfl (lv_at hl 0 rfl) ?_
    refine va_get (D := D) (ci := 0) (v := .ref gr) (C := RX0) (T := TX0) (N := 10) hx hb hts mu_X0 hown hK hP 0 rfl rfl 3 (by decide) (hts _ (List.mem_cons_of_mem _ mw_34)) (fun _ h9 => h9) rfl dX0_holds_10 ?_
    refine lv_iload_n hx hb dX0_holds_13 rfl (lv_at hl 1 rfl) ?_
    refine rk_iald hx hb hK hP 2 0 rfl rfl (i := ev) (by omega) (by decide) dX0_holds_14 ?_
    refine lv_iload_n hx hb dX0_holds_15 rfl (lv_at hl 2 rfl) ?_
    refine lv_icmp_gt (tgt := 33) hx hb dX0_holds_16 (by decide) (fun c_16 => ?_) (fun c_16 => ?_)
    · skip
      refine lv_iconst (v := nI 0) hx hb dX0_holds_33 (by decide) ?_
      exact W.zret (v := (nI 0)) hx hb hr (by decide) (fun t ht hW => ⟨_, rfl, (by first | exact Or.inl ⟨rfl, c_6, i_nlt c_16, i_nle c_26⟩ | exact Or.inr ⟨rfl, fun h => h.1 c_6⟩ | exact Or.inr ⟨rfl, fun h => i_ltn c_16 h.2.1⟩ | exact Or.inr ⟨rfl, fun h => i_len c_26 h.2.2⟩), ht⟩) (fun q h => nomatch h) dX0_holds_34
    · skip
      refine lv_iload_n hx hb dX0_holds_19 rfl (lv_at hl 2 rfl) ?_
      refine lv_aload_n hx hb dX0_holds_20 rfl (lv_at hl 0 rfl) ?_
      refine va_get (D := D) (ci := 0) (v := .ref gp) (C := RX0) (T := TX0) (N := 10) hx hb hts mu_X0 hown hK hP 0 rfl rfl 8 (by decide) (hts _ (List.mem_cons_of_mem _ mw_40)) (fun _ h9 => h9) rfl dX0_holds_21 ?_
      refine lv_iload_n hx hb dX0_holds_24 rfl (lv_at hl 1 rfl) ?_
      refine rk_iald hx hb hK hP 7 0 rfl rfl (i := ev) (by omega) (by decide) dX0_holds_25 ?_
      refine lv_icmp_ge (tgt := 33) hx hb dX0_holds_26 (by decide) (fun c_26 => ?_) (fun c_26 => ?_)
      · skip
        refine lv_iconst (v := nI 0) hx hb dX0_holds_33 (by decide) ?_
        exact W.zret (v := (nI 0)) hx hb hr (by decide) (fun t ht hW => ⟨_, rfl, (by first | exact Or.inl ⟨rfl, c_6, i_nlt c_16, i_nle c_26⟩ | exact Or.inr ⟨rfl, fun h => h.1 c_6⟩ | exact Or.inr ⟨rfl, fun h => i_ltn c_16 h.2.1⟩ | exact Or.inr ⟨rfl, fun h => i_len c_26 h.2.2⟩), ht⟩) (fun q h => nomatch h) dX0_holds_34
      · skip
        refine lv_iconst (v := nI 1) hx hb dX0_holds_29 (by decide) ?_
        refine lv_goto (tgt := 34) hx hb dX0_holds_30 (by decide) ?_
        exact W.zret (v := (nI 1)) hx hb hr (by decide) (fun t ht hW => ⟨_, rfl, (by first | exact Or.inl ⟨rfl, c_6, i_nlt c_16, i_nle c_26⟩ | exact Or.inr ⟨rfl, fun h => h.1 c_6⟩ | exact Or.inr ⟨rfl, fun h => i_ltn c_16 h.2.1⟩ | exact Or.inr ⟨rfl, fun h => i_len c_26 h.2.2⟩), ht⟩) (fun q h => nomatch h) dX0_holds_34
set_option maxHeartbeats 4000000 in
set_option maxRecDepth 100000 in
theorem c_X0_find (l : Launch) (D : va_G) (cI cJ cZ : ClassId) (g0 gk gr gs gv gw gc gp gb r n : Nat) (kf rf sf : Nat → Int32) (vf : Nat → Int64) (wf cf pf bf : Nat → Int32) (hn : n ≤ 300) (key a : Int32) : Met l yX0_find (Cond.code yX0_find cX0_find 4 (some .int) :: wB) ({ frames := 1, cells := 0, slots := 0, locals := 22 } : Room) (ro_Pc D cI cJ cZ [.ref g0, .int key, .int a] [(g0, .inr (0, [.int (nI r), .int (nI n), .ref gk, .ref gr, .ref gs, .ref gv, .ref gw, .ref gc, .ref gp, .ref gb])), (gk, .inl (cI, 300, .inl kf)), (gr, .inl (cI, 300, .inl rf)), (gs, .inl (cZ, 300, .inl sf)), (gv, .inl (cJ, 300, .inr (.inl vf))), (gw, .inl (cI, 300, .inl wf)), (gc, .inl (cI, 300, .inl cf)), (gp, .inl (cI, 300, .inl pf)), (gb, .inl (cI, 300, .inl bf))]) (vp_Si (fun x => (x = -1 ∧ ∀ j, j < n → ¬ (kf j = key ∧ hld sf rf pf j a)) ∨ (∃ j, j < n ∧ x = nI j ∧ (kf j = key ∧ hld sf rf pf j a) ∧ ∀ i, i < j → ¬ (kf i = key ∧ hld sf rf pf i a)))) 0 0 (fun _ => False) := by
  refine Met.ofW (cc := cX0_find) (maxL := 4) (ret := (some .int)) (by decide) rfl ?_
  intro p e s m args below meth c s₁ B hml hv
  obtain ⟨rfl, hP, hK⟩ := hv
  have hx := B.exec
  have hb := B.bytes
  have hr := B.returns
  have hts := atoms_spec (ws := (Cond.code yX0_find cX0_find 4 (some .int) :: wB)) B.pre
  have hown : s.vm.findClass RX0 = some m.cls := findClass_of_methodNamed B.named
  have hlocks := B.notSynchronized
  have hl := lv_entry ([.ref g0, .int key, .int a]) (n := 4) (Nat.le_of_ble_eq_true rfl)
  rw [lg_entry_eq]
  generalize (lg_sl ([.ref g0, .int key, .int a]) ++ List.replicate (4 - (lg_sl ([.ref g0, .int key, .int a])).length) Slot.unset).toArray = ls at hl ⊢
  have hl : lv_has ls 4 [(0, .ref g0), (1, .int key), (2, .int a)] := hl
  refine lv_iconst (v := nI 0) hx hb dX0_find_0 (by decide) ?_
  refine lv_istore_n (lv' := [(3, .int (nI 0)), (0, .ref g0), (1, .int key), (2, .int a)]) hx hb dX0_find_1 rfl hl (by decide) rfl (fun ls hl => ?_)
  have hloop_2 : ∀ (k : Nat) (i : Nat), n - i < k → i ≤ n → (∀ j, j < i → ¬ (kf j = key ∧ hld sf rf pf j a)) → ∀ (ls : Array Slot), lv_has ls 4 [(0, .ref g0), (1, .int key), (2, .int a), (3, .int (nI i))] → W p l e ({ frames := 1, cells := 0, slots := 0, locals := 22 } : Room) s m ([.ref g0, .int key, .int a] : List Value).toArray below meth c s.heap [] 0 0 (MQ below (vp_Si (fun x => (x = -1 ∧ ∀ j, j < n → ¬ (kf j = key ∧ hld sf rf pf j a)) ∨ (∃ j, j < n ∧ x = nI j ∧ (kf j = key ∧ hld sf rf pf j a) ∧ ∀ i, i < j → ¬ (kf i = key ∧ hld sf rf pf i a)))) ([.ref g0, .int key, .int a] : List Value).toArray s 0 0 (fun _ => False)) (F0 m 2 ls []) := by
    intro k
    induction k with
    | zero => intro i hm; exact absurd hm (Nat.not_lt_zero _)
    | succ k ih_2 =>
      intro i hm_2 hi hq ls hl
      refine lv_iload_n hx hb dX0_find_2 rfl (lv_at hl 3 rfl) ?_
      refine lv_aload_n hx hb dX0_find_3 rfl (lv_at hl 0 rfl) ?_
      refine va_get (D := D) (ci := 0) (v := .int (nI n)) (C := RX0) (T := TX0) (N := 10) hx hb hts mu_X0 hown hK hP 0 rfl rfl 1 (by decide) (hts _ (List.mem_cons_of_mem _ mw_30)) (fun _ h9 => h9) rfl dX0_find_4 ?_
      refine lv_icmp_ge (tgt := 37) hx hb dX0_find_7 (by decide) (fun c_7 => ?_) (fun c_7 => ?_)
      · have c_7 := (nI_leI (by omega) (by omega)).mp c_7
        refine lv_iconst (v := -1) hx hb dX0_find_37 (by decide) ?_
        exact W.iret (v := (-1)) hx hb hr (fun t ht hW => ⟨_, rfl, (Or.inl ⟨rfl, fun j hj => hq j (by omega)⟩), ht⟩) (fun q h => nomatch h) dX0_find_38
      · have c_7 := mt (nI_leI (by omega) (by omega)).mpr c_7
        refine lv_aload_n hx hb dX0_find_10 rfl (lv_at hl 0 rfl) ?_
        refine va_get (D := D) (ci := 0) (v := .ref gk) (C := RX0) (T := TX0) (N := 10) hx hb hts mu_X0 hown hK hP 0 rfl rfl 2 (by decide) (hts _ (List.mem_cons_of_mem _ mw_32)) (fun _ h9 => h9) rfl dX0_find_11 ?_
        refine lv_iload_n hx hb dX0_find_14 rfl (lv_at hl 3 rfl) ?_
        refine rk_iald hx hb hK hP 1 0 rfl rfl (i := i) (by omega) (by decide) dX0_find_15 ?_
        refine lv_iload_n hx hb dX0_find_16 rfl (lv_at hl 1 rfl) ?_
        refine lv_icmp_ne (tgt := 31) hx hb dX0_find_17 (by decide) (fun c_17 => ?_) (fun c_17 => ?_)
        · skip
          refine lv_iinc (v := nI (i + 1)) (lv' := [(3, .int (nI (i + 1))), (0, .ref g0), (1, .int key), (2, .int a)]) hx hb dX0_find_31 hl (k := 3) rfl (by rw [show Int32.ofInt 1 = nI 1 by decide, nI_add]) (by decide) rfl (fun ls hl => ?_)
          refine lv_goto (tgt := 2) hx hb dX0_find_34 (by decide) ?_
          exact ih_2 (i + 1) (by omega) (by omega) (by intro j hj hPj; rcases ls_or hj with h | h; exact hq j h hPj; subst h; first | exact c_17 hPj.1 | exact hw_23 hPj.2) ls (lv_sub hl [1, 2, 3, 0] rfl)
        · skip
          refine lv_aload_n hx hb dX0_find_20 rfl (lv_at hl 0 rfl) ?_
          refine lv_iload_n hx hb dX0_find_21 rfl (lv_at hl 3 rfl) ?_
          refine lv_iload_n hx hb dX0_find_22 rfl (lv_at hl 2 rfl) ?_
          refine ro_callVi (As := [.int (nI i), .int a]) (rest := []) ⟨hx, hb, hml, hown, hts⟩ (c_X0_holds l D cI cJ cZ g0 gk gr gs gv gw gc gp gb r n kf rf sf vf wf cf pf bf i (by omega) a) (cwV 2 hts (wB_V mw_133 mw_135 ms_0 mw_2 mw_136) rfl rfl rfl (by decide +kernel) ⟨Nat.le_of_ble_eq_true rfl, Nat.le_of_ble_eq_true rfl⟩) (va_recv hK hP (ci := 0) (q0 := 0) rfl rfl) (hP.sub (ws' := [(g0, .inr (0, [.int (nI r), .int (nI n), .ref gk, .ref gr, .ref gs, .ref gv, .ref gw, .ref gc, .ref gp, .ref gb])), (gk, .inl (cI, 300, .inl kf)), (gr, .inl (cI, 300, .inl rf)), (gs, .inl (cZ, 300, .inl sf)), (gv, .inl (cJ, 300, .inr (.inl vf))), (gw, .inl (cI, 300, .inl wf)), (gc, .inl (cI, 300, .inl cf)), (gp, .inl (cI, 300, .inl pf)), (gb, .inl (cI, 300, .inl bf))]) [0, 1, 2, 3, 4, 5, 6, 7, 8] rfl) hK rfl hl.1 (Nat.le_of_ble_eq_true rfl) ⟨Nat.le_of_ble_eq_true rfl, Nat.le_of_ble_eq_true rfl⟩ rfl dX0_find_23 (fun r_23 hw_23 => ?_)
          try dsimp only at hw_23
          rcases hw_23 with ⟨rfl, hw_23⟩ | ⟨rfl, hw_23⟩
          · skip
            refine lv_if_eq (tgt := 31) hx hb dX0_find_26 (by decide) (fun c => absurd c (by decide)) (fun _ => ?_)
            refine lv_iload_n hx hb dX0_find_29 rfl (lv_at hl 3 rfl) ?_
            exact W.iret (v := (nI i)) hx hb hr (fun t ht hW => ⟨_, rfl, (Or.inr ⟨i, by omega, rfl, ⟨c_17, hw_23⟩, hq⟩), ht⟩) (fun q h => nomatch h) dX0_find_30
          · skip
            refine lv_if_eq (tgt := 31) hx hb dX0_find_26 (by decide) (fun _ => ?_) (fun c => absurd (by decide) c)
            refine lv_iinc (v := nI (i + 1)) (lv' := [(3, .int (nI (i + 1))), (0, .ref g0), (1, .int key), (2, .int a)]) hx hb dX0_find_31 hl (k := 3) rfl (by rw [show Int32.ofInt 1 = nI 1 by decide, nI_add]) (by decide) rfl (fun ls hl => ?_)
            refine lv_goto (tgt := 2) hx hb dX0_find_34 (by decide) ?_
            exact ih_2 (i + 1) (by omega) (by omega) (by intro j hj hPj; rcases ls_or hj with h | h; exact hq j h hPj; subst h; first | exact c_17 hPj.1 | exact hw_23 hPj.2) ls (lv_sub hl [1, 2, 3, 0] rfl)
  -- on to the loop
  exact hloop_2 ((n - 0) + 1) 0 (Nat.lt_succ_self _) (by omega) (fun j h => absurd h (Nat.not_lt_zero j)) ls (lv_sub hl [1, 2, 3, 0] rfl)
set_option maxHeartbeats 4000000 in
set_option maxRecDepth 100000 in
theorem c_X0_isThere (l : Launch) (D : va_G) (cI cJ cZ : ClassId) (g0 gk gr gs gv gw gc gp gb r n : Nat) (kf rf sf : Nat → Int32) (vf : Nat → Int64) (wf cf pf bf : Nat → Int32) (hn : n ≤ 300) (key : Int32) : Met l yX0_isThere (Cond.code yX0_isThere cX0_isThere 2 (some .boolean) :: wB) ({ frames := 2, cells := 0, slots := 0, locals := 45 } : Room) (ro_Pc D cI cJ cZ [.ref g0, .int key] [(g0, .inr (0, [.int (nI r), .int (nI n), .ref gk, .ref gr, .ref gs, .ref gv, .ref gw, .ref gc, .ref gp, .ref gb])), (gk, .inl (cI, 300, .inl kf)), (gr, .inl (cI, 300, .inl rf)), (gs, .inl (cZ, 300, .inl sf)), (gv, .inl (cJ, 300, .inr (.inl vf))), (gw, .inl (cI, 300, .inl wf)), (gc, .inl (cI, 300, .inl cf)), (gp, .inl (cI, 300, .inl pf)), (gb, .inl (cI, 300, .inl bf))]) (vp_Si (fun x => (x = nI 1 ∧ ∃ j, j < n ∧ (kf j = key ∧ hld sf rf pf j (nI r))) ∨ (x = nI 0 ∧ ∀ j, j < n → ¬ (kf j = key ∧ hld sf rf pf j (nI r))))) 0 0 (fun _ => False) := by
  refine Met.ofW (cc := cX0_isThere) (maxL := 2) (ret := (some .boolean)) (by decide) rfl ?_
  intro p e s m args below meth c s₁ B hml hv
  obtain ⟨rfl, hP, hK⟩ := hv
  have hx := B.exec
  have hb := B.bytes
  have hr := B.returns
  have hts := atoms_spec (ws := (Cond.code yX0_isThere cX0_isThere 2 (some .boolean) :: wB)) B.pre
  have hown : s.vm.findClass RX0 = some m.cls := findClass_of_methodNamed B.named
  have hlocks := B.notSynchronized
  have hl := lv_entry ([.ref g0, .int key]) (n := 2) (Nat.le_of_ble_eq_true rfl)
  rw [lg_entry_eq]
  generalize (lg_sl ([.ref g0, .int key]) ++ List.replicate (2 - (lg_sl ([.ref g0, .int key])).length) Slot.unset).toArray = ls at hl ⊢
  have hl : lv_has ls 2 [(0, .ref g0), (1, .int key)] := hl
  refine lv_aload_n hx hb dX0_isThere_0 rfl (lv_at hl 0 rfl) ?_
  refine lv_iload_n hx hb dX0_isThere_1 rfl (lv_at hl 1 rfl) ?_
  refine lv_aload_n hx hb dX0_isThere_2 rfl (lv_at hl 0 rfl) ?_
  refine va_get (D := D) (ci := 0) (v := .int (nI r)) (C := RX0) (T := TX0) (N := 10) hx hb hts mu_X0 hown hK hP 0 rfl rfl 0 (by decide) (hts _ (List.mem_cons_of_mem _ mw_27)) (fun _ h9 => h9) rfl dX0_isThere_3 ?_
  refine ro_callVi (As := [.int key, .int (nI r)]) (rest := []) ⟨hx, hb, hml, hown, hts⟩ (c_X0_find l D cI cJ cZ g0 gk gr gs gv gw gc gp gb r n kf rf sf vf wf cf pf bf (by omega) key (nI r)) (cwV 2 hts (wB_V mw_221 mw_222 mw_223 mw_2 mw_224) rfl rfl rfl (by decide +kernel) ⟨Nat.le_of_ble_eq_true rfl, Nat.le_of_ble_eq_true rfl⟩) (va_recv hK hP (ci := 0) (q0 := 0) rfl rfl) (hP.sub (ws' := [(g0, .inr (0, [.int (nI r), .int (nI n), .ref gk, .ref gr, .ref gs, .ref gv, .ref gw, .ref gc, .ref gp, .ref gb])), (gk, .inl (cI, 300, .inl kf)), (gr, .inl (cI, 300, .inl rf)), (gs, .inl (cZ, 300, .inl sf)), (gv, .inl (cJ, 300, .inr (.inl vf))), (gw, .inl (cI, 300, .inl wf)), (gc, .inl (cI, 300, .inl cf)), (gp, .inl (cI, 300, .inl pf)), (gb, .inl (cI, 300, .inl bf))]) [0, 1, 2, 3, 4, 5, 6, 7, 8] rfl) hK rfl hl.1 (Nat.le_of_ble_eq_true rfl) ⟨Nat.le_of_ble_eq_true rfl, Nat.le_of_ble_eq_true rfl⟩ rfl dX0_isThere_6 (fun r_6 hw_6 => ?_)
  try dsimp only at hw_6
  rcases hw_6 with ⟨rfl, hw_6⟩ | ⟨j, hj, rfl, hw_6, hq⟩
  · skip
    refine lv_iconst (v := -1) hx hb dX0_isThere_9 (by decide) ?_
    refine lv_icmp_eq (tgt := 17) hx hb dX0_isThere_10 (by decide) (fun _ => ?_) (fun c => absurd (by decide) c)
    refine lv_iconst (v := nI 0) hx hb dX0_isThere_17 (by decide) ?_
    exact W.zret (v := (nI 0)) hx hb hr (by decide) (fun t ht hW => ⟨_, rfl, (by first | exact Or.inl ⟨rfl, j, hj, hw_6⟩ | exact Or.inr ⟨rfl, hw_6⟩), ht⟩) (fun q h => nomatch h) dX0_isThere_18
  · skip
    refine lv_iconst (v := -1) hx hb dX0_isThere_9 (by decide) ?_
    refine lv_icmp_eq (tgt := 17) hx hb dX0_isThere_10 (by decide) (fun c => absurd c (zn_nm1 (n := j) (by omega))) (fun _ => ?_)
    refine lv_iconst (v := nI 1) hx hb dX0_isThere_13 (by decide) ?_
    refine lv_goto (tgt := 18) hx hb dX0_isThere_14 (by decide) ?_
    exact W.zret (v := (nI 1)) hx hb hr (by decide) (fun t ht hW => ⟨_, rfl, (by first | exact Or.inl ⟨rfl, j, hj, hw_6⟩ | exact Or.inr ⟨rfl, hw_6⟩), ht⟩) (fun q h => nomatch h) dX0_isThere_18
set_option maxHeartbeats 4000000 in
set_option maxRecDepth 100000 in
theorem c_X0_read (l : Launch) (D : va_G) (cI cJ cZ : ClassId) (g0 gk gr gs gv gw gc gp gb r n : Nat) (kf rf sf : Nat → Int32) (vf : Nat → Int64) (wf cf pf bf : Nat → Int32) (hn : n ≤ 300) (key a w : Int32) : Met l yX0_read (Cond.code yX0_read cX0_read 5 (some .long) :: wB) ({ frames := 2, cells := 0, slots := 0, locals := 45 } : Room) (ro_Pc D cI cJ cZ [.ref g0, .int key, .int a, .int w] [(g0, .inr (0, [.int (nI r), .int (nI n), .ref gk, .ref gr, .ref gs, .ref gv, .ref gw, .ref gc, .ref gp, .ref gb])), (gk, .inl (cI, 300, .inl kf)), (gr, .inl (cI, 300, .inl rf)), (gs, .inl (cZ, 300, .inl sf)), (gv, .inl (cJ, 300, .inr (.inl vf))), (gw, .inl (cI, 300, .inl wf)), (gc, .inl (cI, 300, .inl cf)), (gp, .inl (cI, 300, .inl pf)), (gb, .inl (cI, 300, .inl bf))]) (vp_Sl (fun x => (x = 0 ∧ ∀ j, j < n → ¬ (kf j = key ∧ hld sf rf pf j a)) ∨ (∃ j, j < n ∧ (kf j = key ∧ hld sf rf pf j a) ∧ ((w = nI 0 ∧ x = vf j) ∨ (w ≠ nI 0 ∧ w = nI 1 ∧ x = (wf j).toInt64) ∨ (w ≠ nI 0 ∧ w ≠ nI 1 ∧ w = nI 2 ∧ x = (cf j).toInt64) ∨ (w ≠ nI 0 ∧ w ≠ nI 1 ∧ w ≠ nI 2 ∧ x = (rf j).toInt64))))) 0 0 (fun _ => False) := by
  refine Met.ofW (cc := cX0_read) (maxL := 5) (ret := (some .long)) (by decide) rfl ?_
  intro p e s m args below meth c s₁ B hml hv
  obtain ⟨rfl, hP, hK⟩ := hv
  have hx := B.exec
  have hb := B.bytes
  have hr := B.returns
  have hts := atoms_spec (ws := (Cond.code yX0_read cX0_read 5 (some .long) :: wB)) B.pre
  have hown : s.vm.findClass RX0 = some m.cls := findClass_of_methodNamed B.named
  have hlocks := B.notSynchronized
  have hl := lv_entry ([.ref g0, .int key, .int a, .int w]) (n := 5) (Nat.le_of_ble_eq_true rfl)
  rw [lg_entry_eq]
  generalize (lg_sl ([.ref g0, .int key, .int a, .int w]) ++ List.replicate (5 - (lg_sl ([.ref g0, .int key, .int a, .int w])).length) Slot.unset).toArray = ls at hl ⊢
  have hl : lv_has ls 5 [(0, .ref g0), (1, .int key), (2, .int a), (3, .int w)] := hl
  refine lv_aload_n hx hb dX0_read_0 rfl (lv_at hl 0 rfl) ?_
  refine lv_iload_n hx hb dX0_read_1 rfl (lv_at hl 1 rfl) ?_
  refine lv_iload_n hx hb dX0_read_2 rfl (lv_at hl 2 rfl) ?_
  refine ro_callVi (As := [.int key, .int a]) (rest := []) ⟨hx, hb, hml, hown, hts⟩ (c_X0_find l D cI cJ cZ g0 gk gr gs gv gw gc gp gb r n kf rf sf vf wf cf pf bf (by omega) key a) (cwV 2 hts (wB_V mw_221 mw_222 mw_223 mw_2 mw_224) rfl rfl rfl (by decide +kernel) ⟨Nat.le_of_ble_eq_true rfl, Nat.le_of_ble_eq_true rfl⟩) (va_recv hK hP (ci := 0) (q0 := 0) rfl rfl) (hP.sub (ws' := [(g0, .inr (0, [.int (nI r), .int (nI n), .ref gk, .ref gr, .ref gs, .ref gv, .ref gw, .ref gc, .ref gp, .ref gb])), (gk, .inl (cI, 300, .inl kf)), (gr, .inl (cI, 300, .inl rf)), (gs, .inl (cZ, 300, .inl sf)), (gv, .inl (cJ, 300, .inr (.inl vf))), (gw, .inl (cI, 300, .inl wf)), (gc, .inl (cI, 300, .inl cf)), (gp, .inl (cI, 300, .inl pf)), (gb, .inl (cI, 300, .inl bf))]) [0, 1, 2, 3, 4, 5, 6, 7, 8] rfl) hK rfl hl.1 (Nat.le_of_ble_eq_true rfl) ⟨Nat.le_of_ble_eq_true rfl, Nat.le_of_ble_eq_true rfl⟩ rfl dX0_read_3 (fun r_3 hw_3 => ?_)
  try dsimp only at hw_3
  rcases hw_3 with ⟨rfl, hw_3⟩ | ⟨j, hj, rfl, hw_3, hq⟩
  · skip
    refine lv_istore (lv' := [(4, .int (-1)), (0, .ref g0), (1, .int key), (2, .int a), (3, .int w)]) hx hb dX0_read_6 hl (by decide) rfl (fun ls hl => ?_)
    refine lv_iload hx hb dX0_read_8 (lv_at hl 0 rfl) ?_
    refine lv_iconst (v := -1) hx hb dX0_read_10 (by decide) ?_
    refine lv_icmp_ne (tgt := 16) hx hb dX0_read_11 (by decide) (fun c => absurd (by decide) c) (fun _ => ?_)
    refine lv_lconst (v := 0) hx hb dX0_read_14 (by decide) ?_
    exact W.lret (v := 0) hx hb hr (fun t ht hW => ⟨_, rfl, (Or.inl ⟨rfl, hw_3⟩), ht⟩) (fun q h => nomatch h) dX0_read_15
  · skip
    refine lv_istore (lv' := [(4, .int (nI j)), (0, .ref g0), (1, .int key), (2, .int a), (3, .int w)]) hx hb dX0_read_6 hl (by decide) rfl (fun ls hl => ?_)
    refine lv_iload hx hb dX0_read_8 (lv_at hl 0 rfl) ?_
    refine lv_iconst (v := -1) hx hb dX0_read_10 (by decide) ?_
    refine lv_icmp_ne (tgt := 16) hx hb dX0_read_11 (by decide) (fun _ => ?_) (fun c => absurd c (zn_nm1 (n := j) (by omega)))
    refine lv_iload_n hx hb dX0_read_16 rfl (lv_at hl 4 rfl) ?_
    by_cases s17_0 : w = nI 0
    · refine lv_tableIn (tgt := 44) hx hb dX0_read_17 (by rw [s17_0]; decide) (by rw [s17_0]; decide) (by rw [s17_0]; rfl) (by decide) ?_
      refine lv_aload_n hx hb dX0_read_44 rfl (lv_at hl 1 rfl) ?_
      refine va_get (D := D) (ci := 0) (v := .ref gv) (C := RX0) (T := TX0) (N := 10) hx hb hts mu_X0 hown hK hP 0 rfl rfl 5 (by decide) (hts _ (List.mem_cons_of_mem _ mw_36)) (fun _ h9 => h9) rfl dX0_read_45 ?_
      refine lv_iload hx hb dX0_read_48 (lv_at hl 0 rfl) ?_
      refine rk_lald hx hb hK hP 4 1 rfl rfl (i := j) (by omega) (by decide) dX0_read_50 ?_
      exact W.lret (v := (vf j)) hx hb hr (fun t ht hW => ⟨_, rfl, (Or.inr ⟨j, hj, hw_3, Or.inl ⟨s17_0, rfl⟩⟩), ht⟩) (fun q h => nomatch h) dX0_read_51
    · by_cases s17_1 : w = nI 1
      · refine lv_tableIn (tgt := 52) hx hb dX0_read_17 (by rw [s17_1]; decide) (by rw [s17_1]; decide) (by rw [s17_1]; rfl) (by decide) ?_
        refine lv_aload_n hx hb dX0_read_52 rfl (lv_at hl 1 rfl) ?_
        refine va_get (D := D) (ci := 0) (v := .ref gw) (C := RX0) (T := TX0) (N := 10) hx hb hts mu_X0 hown hK hP 0 rfl rfl 6 (by decide) (hts _ (List.mem_cons_of_mem _ mw_38)) (fun _ h9 => h9) rfl dX0_read_53 ?_
        refine lv_iload hx hb dX0_read_56 (lv_at hl 0 rfl) ?_
        refine rk_iald hx hb hK hP 5 0 rfl rfl (i := j) (by omega) (by decide) dX0_read_58 ?_
        refine lv_i2l hx hb dX0_read_59 rfl ?_
        exact W.lret (v := ((wf j).toInt64)) hx hb hr (fun t ht hW => ⟨_, rfl, (Or.inr ⟨j, hj, hw_3, Or.inr (Or.inl ⟨s17_0, s17_1, rfl⟩)⟩), ht⟩) (fun q h => nomatch h) dX0_read_60
      · by_cases s17_2 : w = nI 2
        · refine lv_tableIn (tgt := 61) hx hb dX0_read_17 (by rw [s17_2]; decide) (by rw [s17_2]; decide) (by rw [s17_2]; rfl) (by decide) ?_
          refine lv_aload_n hx hb dX0_read_61 rfl (lv_at hl 1 rfl) ?_
          refine va_get (D := D) (ci := 0) (v := .ref gc) (C := RX0) (T := TX0) (N := 10) hx hb hts mu_X0 hown hK hP 0 rfl rfl 7 (by decide) (hts _ (List.mem_cons_of_mem _ mw_39)) (fun _ h9 => h9) rfl dX0_read_62 ?_
          refine lv_iload hx hb dX0_read_65 (lv_at hl 0 rfl) ?_
          refine rk_iald hx hb hK hP 6 0 rfl rfl (i := j) (by omega) (by decide) dX0_read_67 ?_
          refine lv_i2l hx hb dX0_read_68 rfl ?_
          exact W.lret (v := ((cf j).toInt64)) hx hb hr (fun t ht hW => ⟨_, rfl, (Or.inr ⟨j, hj, hw_3, Or.inr (Or.inr (Or.inl ⟨s17_0, s17_1, s17_2, rfl⟩))⟩), ht⟩) (fun q h => nomatch h) dX0_read_69
        · refine lv_tableOut (tgt := 70) hx hb dX0_read_17 (by have := lv_neT s17_0 (a := 0) (by decide); have := lv_neT s17_1 (a := 1) (by decide); have := lv_neT s17_2 (a := 2) (by decide); omega) (by decide) ?_
          refine lv_aload_n hx hb dX0_read_70 rfl (lv_at hl 1 rfl) ?_
          refine va_get (D := D) (ci := 0) (v := .ref gr) (C := RX0) (T := TX0) (N := 10) hx hb hts mu_X0 hown hK hP 0 rfl rfl 3 (by decide) (hts _ (List.mem_cons_of_mem _ mw_34)) (fun _ h9 => h9) rfl dX0_read_71 ?_
          refine lv_iload hx hb dX0_read_74 (lv_at hl 0 rfl) ?_
          refine rk_iald hx hb hK hP 2 0 rfl rfl (i := j) (by omega) (by decide) dX0_read_76 ?_
          refine lv_i2l hx hb dX0_read_77 rfl ?_
          exact W.lret (v := ((rf j).toInt64)) hx hb hr (fun t ht hW => ⟨_, rfl, (Or.inr ⟨j, hj, hw_3, Or.inr (Or.inr (Or.inr ⟨s17_0, s17_1, s17_2, rfl⟩))⟩), ht⟩) (fun q h => nomatch h) dX0_read_78
set_option maxHeartbeats 4000000 in
set_option maxRecDepth 100000 in
theorem c_X0_holdsWithin (l : Launch) (D : va_G) (cI cJ cZ : ClassId) (g0 gk gr gs gv gw gc gp gb r n : Nat) (kf rf sf : Nat → Int32) (vf : Nat → Int64) (wf cf pf bf : Nat → Int32) (ev : Nat) (he : ev < 300) (lw hg a : Int32) : Met l yX0_holdsWithin (Cond.code yX0_holdsWithin cX0_holdsWithin 5 (some .boolean) :: wB) ({ frames := 1, cells := 0, slots := 0, locals := 22 } : Room) (ro_Pc D cI cJ cZ [.ref g0, .int (nI ev), .int lw, .int hg, .int a] [(g0, .inr (0, [.int (nI r), .int (nI n), .ref gk, .ref gr, .ref gs, .ref gv, .ref gw, .ref gc, .ref gp, .ref gb])), (gk, .inl (cI, 300, .inl kf)), (gr, .inl (cI, 300, .inl rf)), (gs, .inl (cZ, 300, .inl sf)), (gv, .inl (cJ, 300, .inr (.inl vf))), (gw, .inl (cI, 300, .inl wf)), (gc, .inl (cI, 300, .inl cf)), (gp, .inl (cI, 300, .inl pf)), (gb, .inl (cI, 300, .inl bf))]) (vp_Si (fun x => (x = nI 1 ∧ (lw ≤ kf ev ∧ kf ev < hg ∧ hld sf rf pf ev a)) ∨ (x = nI 0 ∧ ¬ (lw ≤ kf ev ∧ kf ev < hg ∧ hld sf rf pf ev a)))) 0 0 (fun _ => False) := by
  refine Met.ofW (cc := cX0_holdsWithin) (maxL := 5) (ret := (some .boolean)) (by decide) rfl ?_
  intro p e s m args below meth c s₁ B hml hv
  obtain ⟨rfl, hP, hK⟩ := hv
  have hx := B.exec
  have hb := B.bytes
  have hr := B.returns
  have hts := atoms_spec (ws := (Cond.code yX0_holdsWithin cX0_holdsWithin 5 (some .boolean) :: wB)) B.pre
  have hown : s.vm.findClass RX0 = some m.cls := findClass_of_methodNamed B.named
  have hlocks := B.notSynchronized
  have hl := lv_entry ([.ref g0, .int (nI ev), .int lw, .int hg, .int a]) (n := 5) (Nat.le_of_ble_eq_true rfl)
  rw [lg_entry_eq]
  generalize (lg_sl ([.ref g0, .int (nI ev), .int lw, .int hg, .int a]) ++ List.replicate (5 - (lg_sl ([.ref g0, .int (nI ev), .int lw, .int hg, .int a])).length) Slot.unset).toArray = ls at hl ⊢
  have hl : lv_has ls 5 [(0, .ref g0), (1, .int (nI ev)), (2, .int lw), (3, .int hg), (4, .int a)] := hl
  refine lv_aload_n hx hb dX0_holdsWithin_0 rfl (lv_at hl 0 rfl) ?_
  refine va_get (D := D) (ci := 0) (v := .ref gk) (C := RX0) (T := TX0) (N := 10) hx hb hts mu_X0 hown hK hP 0 rfl rfl 2 (by decide) (hts _ (List.mem_cons_of_mem _ mw_32)) (fun _ h9 => h9) rfl dX0_holdsWithin_1 ?_
  refine lv_iload_n hx hb dX0_holdsWithin_4 rfl (lv_at hl 1 rfl) ?_
  refine rk_iald hx hb hK hP 1 0 rfl rfl (i := ev) (by omega) (by decide) dX0_holdsWithin_5 ?_
  refine lv_iload_n hx hb dX0_holdsWithin_6 rfl (lv_at hl 2 rfl) ?_
  refine lv_icmp_lt (tgt := 34) hx hb dX0_holdsWithin_7 (by decide) (fun c_7 => ?_) (fun c_7 => ?_)
  · skip
    refine lv_iconst (v := nI 0) hx hb dX0_holdsWithin_34 (by decide) ?_
    exact W.zret (v := (nI 0)) hx hb hr (by decide) (fun t ht hW => ⟨_, rfl, (by first | exact Or.inl ⟨rfl, i_nlt c_7, i_nle c_17, hw_24⟩ | exact Or.inr ⟨rfl, fun h => i_ltn c_7 h.1⟩ | exact Or.inr ⟨rfl, fun h => i_len c_17 h.2.1⟩ | exact Or.inr ⟨rfl, fun h => hw_24 h.2.2⟩), ht⟩) (fun q h => nomatch h) dX0_holdsWithin_35
  · skip
    refine lv_aload_n hx hb dX0_holdsWithin_10 rfl (lv_at hl 0 rfl) ?_
    refine va_get (D := D) (ci := 0) (v := .ref gk) (C := RX0) (T := TX0) (N := 10) hx hb hts mu_X0 hown hK hP 0 rfl rfl 2 (by decide) (hts _ (List.mem_cons_of_mem _ mw_32)) (fun _ h9 => h9) rfl dX0_holdsWithin_11 ?_
    refine lv_iload_n hx hb dX0_holdsWithin_14 rfl (lv_at hl 1 rfl) ?_
    refine rk_iald hx hb hK hP 1 0 rfl rfl (i := ev) (by omega) (by decide) dX0_holdsWithin_15 ?_
    refine lv_iload_n hx hb dX0_holdsWithin_16 rfl (lv_at hl 3 rfl) ?_
    refine lv_icmp_ge (tgt := 34) hx hb dX0_holdsWithin_17 (by decide) (fun c_17 => ?_) (fun c_17 => ?_)
    · skip
      refine lv_iconst (v := nI 0) hx hb dX0_holdsWithin_34 (by decide) ?_
      exact W.zret (v := (nI 0)) hx hb hr (by decide) (fun t ht hW => ⟨_, rfl, (by first | exact Or.inl ⟨rfl, i_nlt c_7, i_nle c_17, hw_24⟩ | exact Or.inr ⟨rfl, fun h => i_ltn c_7 h.1⟩ | exact Or.inr ⟨rfl, fun h => i_len c_17 h.2.1⟩ | exact Or.inr ⟨rfl, fun h => hw_24 h.2.2⟩), ht⟩) (fun q h => nomatch h) dX0_holdsWithin_35
    · skip
      refine lv_aload_n hx hb dX0_holdsWithin_20 rfl (lv_at hl 0 rfl) ?_
      refine lv_iload_n hx hb dX0_holdsWithin_21 rfl (lv_at hl 1 rfl) ?_
      refine lv_iload hx hb dX0_holdsWithin_22 (lv_at hl 4 rfl) ?_
      refine ro_callVi (As := [.int (nI ev), .int a]) (rest := []) ⟨hx, hb, hml, hown, hts⟩ (c_X0_holds l D cI cJ cZ g0 gk gr gs gv gw gc gp gb r n kf rf sf vf wf cf pf bf ev (by omega) a) (cwV 2 hts (wB_V mw_133 mw_135 ms_0 mw_2 mw_136) rfl rfl rfl (by decide +kernel) ⟨Nat.le_of_ble_eq_true rfl, Nat.le_of_ble_eq_true rfl⟩) (va_recv hK hP (ci := 0) (q0 := 0) rfl rfl) (hP.sub (ws' := [(g0, .inr (0, [.int (nI r), .int (nI n), .ref gk, .ref gr, .ref gs, .ref gv, .ref gw, .ref gc, .ref gp, .ref gb])), (gk, .inl (cI, 300, .inl kf)), (gr, .inl (cI, 300, .inl rf)), (gs, .inl (cZ, 300, .inl sf)), (gv, .inl (cJ, 300, .inr (.inl vf))), (gw, .inl (cI, 300, .inl wf)), (gc, .inl (cI, 300, .inl cf)), (gp, .inl (cI, 300, .inl pf)), (gb, .inl (cI, 300, .inl bf))]) [0, 1, 2, 3, 4, 5, 6, 7, 8] rfl) hK rfl hl.1 (Nat.le_of_ble_eq_true rfl) ⟨Nat.le_of_ble_eq_true rfl, Nat.le_of_ble_eq_true rfl⟩ rfl dX0_holdsWithin_24 (fun r_24 hw_24 => ?_)
      try dsimp only at hw_24
      rcases hw_24 with ⟨rfl, hw_24⟩ | ⟨rfl, hw_24⟩
      · skip
        refine lv_if_eq (tgt := 34) hx hb dX0_holdsWithin_27 (by decide) (fun c => absurd c (by decide)) (fun _ => ?_)
        refine lv_iconst (v := nI 1) hx hb dX0_holdsWithin_30 (by decide) ?_
        refine lv_goto (tgt := 35) hx hb dX0_holdsWithin_31 (by decide) ?_
        exact W.zret (v := (nI 1)) hx hb hr (by decide) (fun t ht hW => ⟨_, rfl, (by first | exact Or.inl ⟨rfl, i_nlt c_7, i_nle c_17, hw_24⟩ | exact Or.inr ⟨rfl, fun h => i_ltn c_7 h.1⟩ | exact Or.inr ⟨rfl, fun h => i_len c_17 h.2.1⟩ | exact Or.inr ⟨rfl, fun h => hw_24 h.2.2⟩), ht⟩) (fun q h => nomatch h) dX0_holdsWithin_35
      · skip
        refine lv_if_eq (tgt := 34) hx hb dX0_holdsWithin_27 (by decide) (fun _ => ?_) (fun c => absurd (by decide) c)
        refine lv_iconst (v := nI 0) hx hb dX0_holdsWithin_34 (by decide) ?_
        exact W.zret (v := (nI 0)) hx hb hr (by decide) (fun t ht hW => ⟨_, rfl, (by first | exact Or.inl ⟨rfl, i_nlt c_7, i_nle c_17, hw_24⟩ | exact Or.inr ⟨rfl, fun h => i_ltn c_7 h.1⟩ | exact Or.inr ⟨rfl, fun h => i_len c_17 h.2.1⟩ | exact Or.inr ⟨rfl, fun h => hw_24 h.2.2⟩), ht⟩) (fun q h => nomatch h) dX0_holdsWithin_35
set_option maxHeartbeats 4000000 in
set_option maxRecDepth 100000 in
theorem c_X0_keysWithin (l : Launch) (D : va_G) (cI cJ cZ : ClassId) (g0 gk gr gs gv gw gc gp gb r n : Nat) (kf rf sf : Nat → Int32) (vf : Nat → Int64) (wf cf pf bf : Nat → Int32) (hn : n ≤ 300) (lw hg a : Int32) : Met l yX0_keysWithin (Cond.code yX0_keysWithin cX0_keysWithin 6 (some .int) :: wB) ({ frames := 2, cells := 0, slots := 0, locals := 46 } : Room) (ro_Pc D cI cJ cZ [.ref g0, .int lw, .int hg, .int a] [(g0, .inr (0, [.int (nI r), .int (nI n), .ref gk, .ref gr, .ref gs, .ref gv, .ref gw, .ref gc, .ref gp, .ref gb])), (gk, .inl (cI, 300, .inl kf)), (gr, .inl (cI, 300, .inl rf)), (gs, .inl (cZ, 300, .inl sf)), (gv, .inl (cJ, 300, .inr (.inl vf))), (gw, .inl (cI, 300, .inl wf)), (gc, .inl (cI, 300, .inl cf)), (gp, .inl (cI, 300, .inl pf)), (gb, .inl (cI, 300, .inl bf))]) (vp_Si (fun x => x = nI (cnt (fun t => (lw ≤ kf t ∧ kf t < hg ∧ hld sf rf pf t a)) n))) 0 0 (fun _ => False) := by
  refine Met.ofW (cc := cX0_keysWithin) (maxL := 6) (ret := (some .int)) (by decide) rfl ?_
  intro p e s m args below meth c s₁ B hml hv
  obtain ⟨rfl, hP, hK⟩ := hv
  have hx := B.exec
  have hb := B.bytes
  have hr := B.returns
  have hts := atoms_spec (ws := (Cond.code yX0_keysWithin cX0_keysWithin 6 (some .int) :: wB)) B.pre
  have hown : s.vm.findClass RX0 = some m.cls := findClass_of_methodNamed B.named
  have hlocks := B.notSynchronized
  have hl := lv_entry ([.ref g0, .int lw, .int hg, .int a]) (n := 6) (Nat.le_of_ble_eq_true rfl)
  rw [lg_entry_eq]
  generalize (lg_sl ([.ref g0, .int lw, .int hg, .int a]) ++ List.replicate (6 - (lg_sl ([.ref g0, .int lw, .int hg, .int a])).length) Slot.unset).toArray = ls at hl ⊢
  have hl : lv_has ls 6 [(0, .ref g0), (1, .int lw), (2, .int hg), (3, .int a)] := hl
  refine lv_iconst (v := nI 0) hx hb dX0_keysWithin_0 (by decide) ?_
  refine lv_istore (lv' := [(4, .int (nI 0)), (0, .ref g0), (1, .int lw), (2, .int hg), (3, .int a)]) hx hb dX0_keysWithin_1 hl (by decide) rfl (fun ls hl => ?_)
  refine lv_iconst (v := nI 0) hx hb dX0_keysWithin_3 (by decide) ?_
  refine lv_istore (lv' := [(5, .int (nI 0)), (4, .int (nI 0)), (0, .ref g0), (1, .int lw), (2, .int hg), (3, .int a)]) hx hb dX0_keysWithin_4 hl (by decide) rfl (fun ls hl => ?_)
  have hloop_6 : ∀ (k : Nat) (f : Nat) (i : Nat), n - i < k → i ≤ n → f = cnt (fun t => (lw ≤ kf t ∧ kf t < hg ∧ hld sf rf pf t a)) i → ∀ (ls : Array Slot), lv_has ls 6 [(0, .ref g0), (1, .int lw), (2, .int hg), (3, .int a), (4, .int (nI f)), (5, .int (nI i))] → W p l e ({ frames := 2, cells := 0, slots := 0, locals := 46 } : Room) s m ([.ref g0, .int lw, .int hg, .int a] : List Value).toArray below meth c s.heap [] 0 0 (MQ below (vp_Si (fun x => x = nI (cnt (fun t => (lw ≤ kf t ∧ kf t < hg ∧ hld sf rf pf t a)) n))) ([.ref g0, .int lw, .int hg, .int a] : List Value).toArray s 0 0 (fun _ => False)) (F0 m 6 ls []) := by
    intro k
    induction k with
    | zero => intro f i hm; exact absurd hm (Nat.not_lt_zero _)
    | succ k ih_6 =>
      intro f i hm_6 hi hf ls hl
      refine lv_iload hx hb dX0_keysWithin_6 (lv_at hl 5 rfl) ?_
      refine lv_aload_n hx hb dX0_keysWithin_8 rfl (lv_at hl 0 rfl) ?_
      refine va_get (D := D) (ci := 0) (v := .int (nI n)) (C := RX0) (T := TX0) (N := 10) hx hb hts mu_X0 hown hK hP 0 rfl rfl 1 (by decide) (hts _ (List.mem_cons_of_mem _ mw_30)) (fun _ h9 => h9) rfl dX0_keysWithin_9 ?_
      refine lv_icmp_ge (tgt := 36) hx hb dX0_keysWithin_12 (by decide) (fun c_12 => ?_) (fun c_12 => ?_)
      · have c_12 := (nI_leI (by omega) (by omega)).mp c_12
        refine lv_iload hx hb dX0_keysWithin_36 (lv_at hl 4 rfl) ?_
        exact W.iret (v := (nI f)) hx hb hr (fun t ht hW => ⟨_, rfl, (by rw [hf, show i = n by omega]), ht⟩) (fun q h => nomatch h) dX0_keysWithin_38
      · have c_12 := mt (nI_leI (by omega) (by omega)).mpr c_12
        refine lv_aload_n hx hb dX0_keysWithin_15 rfl (lv_at hl 0 rfl) ?_
        refine lv_iload hx hb dX0_keysWithin_16 (lv_at hl 5 rfl) ?_
        refine lv_iload_n hx hb dX0_keysWithin_18 rfl (lv_at hl 1 rfl) ?_
        refine lv_iload_n hx hb dX0_keysWithin_19 rfl (lv_at hl 2 rfl) ?_
        refine lv_iload_n hx hb dX0_keysWithin_20 rfl (lv_at hl 3 rfl) ?_
        refine ro_callVi (As := [.int (nI i), .int lw, .int hg, .int a]) (rest := []) ⟨hx, hb, hml, hown, hts⟩ (c_X0_holdsWithin l D cI cJ cZ g0 gk gr gs gv gw gc gp gb r n kf rf sf vf wf cf pf bf i (by omega) lw hg a) (cwV 4 hts (wB_V mw_391 mw_393 ms_8 mw_2 mw_394) rfl rfl rfl (by decide +kernel) ⟨Nat.le_of_ble_eq_true rfl, Nat.le_of_ble_eq_true rfl⟩) (va_recv hK hP (ci := 0) (q0 := 0) rfl rfl) (hP.sub (ws' := [(g0, .inr (0, [.int (nI r), .int (nI n), .ref gk, .ref gr, .ref gs, .ref gv, .ref gw, .ref gc, .ref gp, .ref gb])), (gk, .inl (cI, 300, .inl kf)), (gr, .inl (cI, 300, .inl rf)), (gs, .inl (cZ, 300, .inl sf)), (gv, .inl (cJ, 300, .inr (.inl vf))), (gw, .inl (cI, 300, .inl wf)), (gc, .inl (cI, 300, .inl cf)), (gp, .inl (cI, 300, .inl pf)), (gb, .inl (cI, 300, .inl bf))]) [0, 1, 2, 3, 4, 5, 6, 7, 8] rfl) hK rfl hl.1 (Nat.le_of_ble_eq_true rfl) ⟨Nat.le_of_ble_eq_true rfl, Nat.le_of_ble_eq_true rfl⟩ rfl dX0_keysWithin_21 (fun r_21 hw_21 => ?_)
        try dsimp only at hw_21
        rcases hw_21 with ⟨rfl, hw_21⟩ | ⟨rfl, hw_21⟩
        · skip
          refine lv_if_eq (tgt := 30) hx hb dX0_keysWithin_24 (by decide) (fun c => absurd c (by decide)) (fun _ => ?_)
          refine lv_iinc (v := nI (f + 1)) (lv' := [(4, .int (nI (f + 1))), (0, .ref g0), (1, .int lw), (2, .int hg), (3, .int a), (5, .int (nI i))]) hx hb dX0_keysWithin_27 hl (k := 4) rfl (by rw [show Int32.ofInt 1 = nI 1 by decide, nI_add]) (by decide) rfl (fun ls hl => ?_)
          refine lv_iinc (v := nI (i + 1)) (lv' := [(5, .int (nI (i + 1))), (4, .int (nI (f + 1))), (0, .ref g0), (1, .int lw), (2, .int hg), (3, .int a)]) hx hb dX0_keysWithin_30 hl (k := 5) rfl (by rw [show Int32.ofInt 1 = nI 1 by decide, nI_add]) (by decide) rfl (fun ls hl => ?_)
          refine lv_goto (tgt := 6) hx hb dX0_keysWithin_33 (by decide) ?_
          exact ih_6 (f + 1) (i + 1) (by omega) (by omega) (by first | rw [cnt_1 hw_21, hf] | rw [cnt_0 hw_21, hf]) ls (lv_sub hl [2, 3, 4, 5, 1, 0] rfl)
        · skip
          refine lv_if_eq (tgt := 30) hx hb dX0_keysWithin_24 (by decide) (fun _ => ?_) (fun c => absurd (by decide) c)
          refine lv_iinc (v := nI (i + 1)) (lv' := [(5, .int (nI (i + 1))), (0, .ref g0), (1, .int lw), (2, .int hg), (3, .int a), (4, .int (nI f))]) hx hb dX0_keysWithin_30 hl (k := 5) rfl (by rw [show Int32.ofInt 1 = nI 1 by decide, nI_add]) (by decide) rfl (fun ls hl => ?_)
          refine lv_goto (tgt := 6) hx hb dX0_keysWithin_33 (by decide) ?_
          exact ih_6 f (i + 1) (by omega) (by omega) (by first | rw [cnt_1 hw_21, hf] | rw [cnt_0 hw_21, hf]) ls (lv_sub hl [1, 2, 3, 4, 5, 0] rfl)
  -- on to the loop
  exact hloop_6 ((n - 0) + 1) 0 0 (Nat.lt_succ_self _) (by omega) (rfl) ls (lv_sub hl [2, 3, 4, 5, 1, 0] rfl)
set_option maxHeartbeats 4000000 in
set_option maxRecDepth 100000 in
theorem c_X0_findWithin (l : Launch) (D : va_G) (cI cJ cZ : ClassId) (g0 gk gr gs gv gw gc gp gb r n : Nat) (kf rf sf : Nat → Int32) (vf : Nat → Int64) (wf cf pf bf : Nat → Int32) (bn : Nat → Nat) (hn : n ≤ 300) (hbn : ∀ q, q < n → bf q = nI (bn q) ∧ bn q < n) (lw hg a ix : Int32) : Met l yX0_findWithin (Cond.code yX0_findWithin cX0_findWithin 8 (some .int) :: wB) ({ frames := 2, cells := 0, slots := 0, locals := 46 } : Room) (ro_Pc D cI cJ cZ [.ref g0, .int lw, .int hg, .int a, .int ix] [(g0, .inr (0, [.int (nI r), .int (nI n), .ref gk, .ref gr, .ref gs, .ref gv, .ref gw, .ref gc, .ref gp, .ref gb])), (gk, .inl (cI, 300, .inl kf)), (gr, .inl (cI, 300, .inl rf)), (gs, .inl (cZ, 300, .inl sf)), (gv, .inl (cJ, 300, .inr (.inl vf))), (gw, .inl (cI, 300, .inl wf)), (gc, .inl (cI, 300, .inl cf)), (gp, .inl (cI, 300, .inl pf)), (gb, .inl (cI, 300, .inl bf))]) (vp_Si (fun x => (x = -1 ∧ ∀ q, q < n → (lw ≤ kf (bn q) ∧ kf (bn q) < hg ∧ hld sf rf pf (bn q) a) → ix ≠ nI (cnt (fun t => (lw ≤ kf (bn t) ∧ kf (bn t) < hg ∧ hld sf rf pf (bn t) a)) q)) ∨ (∃ q, q < n ∧ x = nI (bn q) ∧ (lw ≤ kf (bn q) ∧ kf (bn q) < hg ∧ hld sf rf pf (bn q) a) ∧ ix = nI (cnt (fun t => (lw ≤ kf (bn t) ∧ kf (bn t) < hg ∧ hld sf rf pf (bn t) a)) q)))) 0 0 (fun _ => False) := by
  refine Met.ofW (cc := cX0_findWithin) (maxL := 8) (ret := (some .int)) (by decide) rfl ?_
  intro p e s m args below meth c s₁ B hml hv
  obtain ⟨rfl, hP, hK⟩ := hv
  have hx := B.exec
  have hb := B.bytes
  have hr := B.returns
  have hts := atoms_spec (ws := (Cond.code yX0_findWithin cX0_findWithin 8 (some .int) :: wB)) B.pre
  have hown : s.vm.findClass RX0 = some m.cls := findClass_of_methodNamed B.named
  have hlocks := B.notSynchronized
  have hl := lv_entry ([.ref g0, .int lw, .int hg, .int a, .int ix]) (n := 8) (Nat.le_of_ble_eq_true rfl)
  rw [lg_entry_eq]
  generalize (lg_sl ([.ref g0, .int lw, .int hg, .int a, .int ix]) ++ List.replicate (8 - (lg_sl ([.ref g0, .int lw, .int hg, .int a, .int ix])).length) Slot.unset).toArray = ls at hl ⊢
  have hl : lv_has ls 8 [(0, .ref g0), (1, .int lw), (2, .int hg), (3, .int a), (4, .int ix)] := hl
  refine lv_iconst (v := nI 0) hx hb dX0_findWithin_0 (by decide) ?_
  refine lv_istore (lv' := [(5, .int (nI 0)), (0, .ref g0), (1, .int lw), (2, .int hg), (3, .int a), (4, .int ix)]) hx hb dX0_findWithin_1 hl (by decide) rfl (fun ls hl => ?_)
  refine lv_iconst (v := nI 0) hx hb dX0_findWithin_3 (by decide) ?_
  refine lv_istore (lv' := [(6, .int (nI 0)), (5, .int (nI 0)), (0, .ref g0), (1, .int lw), (2, .int hg), (3, .int a), (4, .int ix)]) hx hb dX0_findWithin_4 hl (by decide) rfl (fun ls hl => ?_)
  have hloop_6 : ∀ (k : Nat) (f : Nat) (i : Nat), n - i < k → i ≤ n → f = cnt (fun t => (lw ≤ kf (bn t) ∧ kf (bn t) < hg ∧ hld sf rf pf (bn t) a)) i → (∀ q, q < i → (lw ≤ kf (bn q) ∧ kf (bn q) < hg ∧ hld sf rf pf (bn q) a) → ix ≠ nI (cnt (fun t => (lw ≤ kf (bn t) ∧ kf (bn t) < hg ∧ hld sf rf pf (bn t) a)) q)) → ∀ (ls : Array Slot), lv_has ls 8 [(0, .ref g0), (1, .int lw), (2, .int hg), (3, .int a), (4, .int ix), (5, .int (nI f)), (6, .int (nI i))] → W p l e ({ frames := 2, cells := 0, slots := 0, locals := 46 } : Room) s m ([.ref g0, .int lw, .int hg, .int a, .int ix] : List Value).toArray below meth c s.heap [] 0 0 (MQ below (vp_Si (fun x => (x = -1 ∧ ∀ q, q < n → (lw ≤ kf (bn q) ∧ kf (bn q) < hg ∧ hld sf rf pf (bn q) a) → ix ≠ nI (cnt (fun t => (lw ≤ kf (bn t) ∧ kf (bn t) < hg ∧ hld sf rf pf (bn t) a)) q)) ∨ (∃ q, q < n ∧ x = nI (bn q) ∧ (lw ≤ kf (bn q) ∧ kf (bn q) < hg ∧ hld sf rf pf (bn q) a) ∧ ix = nI (cnt (fun t => (lw ≤ kf (bn t) ∧ kf (bn t) < hg ∧ hld sf rf pf (bn t) a)) q)))) ([.ref g0, .int lw, .int hg, .int a, .int ix] : List Value).toArray s 0 0 (fun _ => False)) (F0 m 6 ls []) := by
    intro k
    induction k with
    | zero => intro f i hm; exact absurd hm (Nat.not_lt_zero _)
    | succ k ih_6 =>
      intro f i hm_6 hi hf hq ls hl
      refine lv_iload hx hb dX0_findWithin_6 (lv_at hl 6 rfl) ?_
      refine lv_aload_n hx hb dX0_findWithin_8 rfl (lv_at hl 0 rfl) ?_
      refine va_get (D := D) (ci := 0) (v := .int (nI n)) (C := RX0) (T := TX0) (N := 10) hx hb hts mu_X0 hown hK hP 0 rfl rfl 1 (by decide) (hts _ (List.mem_cons_of_mem _ mw_30)) (fun _ h9 => h9) rfl dX0_findWithin_9 ?_
      refine lv_icmp_ge (tgt := 55) hx hb dX0_findWithin_12 (by decide) (fun c_12 => ?_) (fun c_12 => ?_)
      · have c_12 := (nI_leI (by omega) (by omega)).mp c_12
        refine lv_iconst (v := -1) hx hb dX0_findWithin_55 (by decide) ?_
        exact W.iret (v := (-1)) hx hb hr (fun t ht hW => ⟨_, rfl, (Or.inl ⟨rfl, fun q hq1 => hq q (by omega)⟩), ht⟩) (fun q h => nomatch h) dX0_findWithin_56
      · have c_12 := mt (nI_leI (by omega) (by omega)).mpr c_12
        refine lv_aload_n hx hb dX0_findWithin_15 rfl (lv_at hl 0 rfl) ?_
        refine va_get (D := D) (ci := 0) (v := .ref gb) (C := RX0) (T := TX0) (N := 10) hx hb hts mu_X0 hown hK hP 0 rfl rfl 9 (by decide) (hts _ (List.mem_cons_of_mem _ mw_41)) (fun _ h9 => h9) rfl dX0_findWithin_16 ?_
        refine lv_iload hx hb dX0_findWithin_19 (lv_at hl 6 rfl) ?_
        refine rk_iald hx hb hK hP 8 0 rfl rfl (i := i) (by omega) (by decide) dX0_findWithin_21 ?_
        rw [(hbn i (by omega)).1]
        have hbi := (hbn i (by omega)).2
        refine lv_istore (lv' := [(7, .int (nI (bn i))), (0, .ref g0), (1, .int lw), (2, .int hg), (3, .int a), (4, .int ix), (5, .int (nI f)), (6, .int (nI i))]) hx hb dX0_findWithin_22 hl (by decide) rfl (fun ls hl => ?_)
        refine lv_aload_n hx hb dX0_findWithin_24 rfl (lv_at hl 1 rfl) ?_
        refine lv_iload hx hb dX0_findWithin_25 (lv_at hl 0 rfl) ?_
        refine lv_iload_n hx hb dX0_findWithin_27 rfl (lv_at hl 2 rfl) ?_
        refine lv_iload_n hx hb dX0_findWithin_28 rfl (lv_at hl 3 rfl) ?_
        refine lv_iload_n hx hb dX0_findWithin_29 rfl (lv_at hl 4 rfl) ?_
        refine ro_callVi (As := [.int (nI (bn i)), .int lw, .int hg, .int a]) (rest := []) ⟨hx, hb, hml, hown, hts⟩ (c_X0_holdsWithin l D cI cJ cZ g0 gk gr gs gv gw gc gp gb r n kf rf sf vf wf cf pf bf (bn i) (by omega) lw hg a) (cwV 4 hts (wB_V mw_391 mw_393 ms_8 mw_2 mw_394) rfl rfl rfl (by decide +kernel) ⟨Nat.le_of_ble_eq_true rfl, Nat.le_of_ble_eq_true rfl⟩) (va_recv hK hP (ci := 0) (q0 := 0) rfl rfl) (hP.sub (ws' := [(g0, .inr (0, [.int (nI r), .int (nI n), .ref gk, .ref gr, .ref gs, .ref gv, .ref gw, .ref gc, .ref gp, .ref gb])), (gk, .inl (cI, 300, .inl kf)), (gr, .inl (cI, 300, .inl rf)), (gs, .inl (cZ, 300, .inl sf)), (gv, .inl (cJ, 300, .inr (.inl vf))), (gw, .inl (cI, 300, .inl wf)), (gc, .inl (cI, 300, .inl cf)), (gp, .inl (cI, 300, .inl pf)), (gb, .inl (cI, 300, .inl bf))]) [0, 1, 2, 3, 4, 5, 6, 7, 8] rfl) hK rfl hl.1 (Nat.le_of_ble_eq_true rfl) ⟨Nat.le_of_ble_eq_true rfl, Nat.le_of_ble_eq_true rfl⟩ rfl dX0_findWithin_30 (fun r_30 hw_30 => ?_)
        try dsimp only at hw_30
        rcases hw_30 with ⟨rfl, hw_30⟩ | ⟨rfl, hw_30⟩
        · skip
          refine lv_if_eq (tgt := 49) hx hb dX0_findWithin_33 (by decide) (fun c => absurd c (by decide)) (fun _ => ?_)
          refine lv_iload hx hb dX0_findWithin_36 (lv_at hl 6 rfl) ?_
          refine lv_iload hx hb dX0_findWithin_38 (lv_at hl 5 rfl) ?_
          refine lv_icmp_ne (tgt := 46) hx hb dX0_findWithin_40 (by decide) (fun c_40 => ?_) (fun c_40 => ?_)
          · skip
            refine lv_iinc (v := nI (f + 1)) (lv' := [(5, .int (nI (f + 1))), (7, .int (nI (bn i))), (0, .ref g0), (1, .int lw), (2, .int hg), (3, .int a), (4, .int ix), (6, .int (nI i))]) hx hb dX0_findWithin_46 hl (k := 6) rfl (by rw [show Int32.ofInt 1 = nI 1 by decide, nI_add]) (by decide) rfl (fun ls hl => ?_)
            refine lv_iinc (v := nI (i + 1)) (lv' := [(6, .int (nI (i + 1))), (5, .int (nI (f + 1))), (7, .int (nI (bn i))), (0, .ref g0), (1, .int lw), (2, .int hg), (3, .int a), (4, .int ix)]) hx hb dX0_findWithin_49 hl (k := 7) rfl (by rw [show Int32.ofInt 1 = nI 1 by decide, nI_add]) (by decide) rfl (fun ls hl => ?_)
            refine lv_goto (tgt := 6) hx hb dX0_findWithin_52 (by decide) ?_
            exact ih_6 (f + 1) (i + 1) (by omega) (by omega) (by first | rw [cnt_1 (Pr := fun t => (lw ≤ kf (bn t) ∧ kf (bn t) < hg ∧ hld sf rf pf (bn t) a)) hw_30, hf] | rw [cnt_0 (Pr := fun t => (lw ≤ kf (bn t) ∧ kf (bn t) < hg ∧ hld sf rf pf (bn t) a)) hw_30, hf]) (by intro q hq1 hq2; rcases ls_or hq1 with h | h; exact hq q h hq2; subst h; first | exact absurd hq2 hw_30 | (intro h3; exact c_40 (by rw [hf, h3]))) ls (lv_sub hl [3, 4, 5, 6, 7, 1, 0] rfl)
          · skip
            refine lv_iload hx hb dX0_findWithin_43 (lv_at hl 0 rfl) ?_
            exact W.iret (v := (nI (bn i))) hx hb hr (fun t ht hW => ⟨_, rfl, (Or.inr ⟨i, by omega, rfl, hw_30, by rw [← c_40, hf]⟩), ht⟩) (fun q h => nomatch h) dX0_findWithin_45
        · skip
          refine lv_if_eq (tgt := 49) hx hb dX0_findWithin_33 (by decide) (fun _ => ?_) (fun c => absurd (by decide) c)
          refine lv_iinc (v := nI (i + 1)) (lv' := [(6, .int (nI (i + 1))), (7, .int (nI (bn i))), (0, .ref g0), (1, .int lw), (2, .int hg), (3, .int a), (4, .int ix), (5, .int (nI f))]) hx hb dX0_findWithin_49 hl (k := 7) rfl (by rw [show Int32.ofInt 1 = nI 1 by decide, nI_add]) (by decide) rfl (fun ls hl => ?_)
          refine lv_goto (tgt := 6) hx hb dX0_findWithin_52 (by decide) ?_
          exact ih_6 f (i + 1) (by omega) (by omega) (by first | rw [cnt_1 (Pr := fun t => (lw ≤ kf (bn t) ∧ kf (bn t) < hg ∧ hld sf rf pf (bn t) a)) hw_30, hf] | rw [cnt_0 (Pr := fun t => (lw ≤ kf (bn t) ∧ kf (bn t) < hg ∧ hld sf rf pf (bn t) a)) hw_30, hf]) (by intro q hq1 hq2; rcases ls_or hq1 with h | h; exact hq q h hq2; subst h; first | exact absurd hq2 hw_30 | (intro h3; exact c_40 (by rw [hf, h3]))) ls (lv_sub hl [2, 3, 4, 5, 6, 7, 0] rfl)
  -- on to the loop
  exact hloop_6 ((n - 0) + 1) 0 0 (Nat.lt_succ_self _) (by omega) (rfl) (fun q h => absurd h (Nat.not_lt_zero q)) ls (lv_sub hl [2, 3, 4, 5, 6, 1, 0] rfl)
set_option maxHeartbeats 4000000 in
set_option maxRecDepth 100000 in
theorem c_X0_keysNow (l : Launch) (D : va_G) (cI cJ cZ : ClassId) (g0 gk gr gs gv gw gc gp gb r n : Nat) (kf rf sf : Nat → Int32) (vf : Nat → Int64) (wf cf pf bf : Nat → Int32) (hn : n ≤ 300) : Met l yX0_keysNow (Cond.code yX0_keysNow cX0_keysNow 3 (some .int) :: wB) ({ frames := 1, cells := 0, slots := 0, locals := 22 } : Room) (ro_Pc D cI cJ cZ [.ref g0] [(g0, .inr (0, [.int (nI r), .int (nI n), .ref gk, .ref gr, .ref gs, .ref gv, .ref gw, .ref gc, .ref gp, .ref gb])), (gk, .inl (cI, 300, .inl kf)), (gr, .inl (cI, 300, .inl rf)), (gs, .inl (cZ, 300, .inl sf)), (gv, .inl (cJ, 300, .inr (.inl vf))), (gw, .inl (cI, 300, .inl wf)), (gc, .inl (cI, 300, .inl cf)), (gp, .inl (cI, 300, .inl pf)), (gb, .inl (cI, 300, .inl bf))]) (vp_Si (fun x => x = nI (cnt (fun t => hld sf rf pf t (nI r)) n))) 0 0 (fun _ => False) := by
  refine Met.ofW (cc := cX0_keysNow) (maxL := 3) (ret := (some .int)) (by decide) rfl ?_
  intro p e s m args below meth c s₁ B hml hv
  obtain ⟨rfl, hP, hK⟩ := hv
  have hx := B.exec
  have hb := B.bytes
  have hr := B.returns
  have hts := atoms_spec (ws := (Cond.code yX0_keysNow cX0_keysNow 3 (some .int) :: wB)) B.pre
  have hown : s.vm.findClass RX0 = some m.cls := findClass_of_methodNamed B.named
  have hlocks := B.notSynchronized
  have hl := lv_entry ([.ref g0]) (n := 3) (Nat.le_of_ble_eq_true rfl)
  rw [lg_entry_eq]
  generalize (lg_sl ([.ref g0]) ++ List.replicate (3 - (lg_sl ([.ref g0])).length) Slot.unset).toArray = ls at hl ⊢
  have hl : lv_has ls 3 [(0, .ref g0)] := hl
  refine lv_iconst (v := nI 0) hx hb dX0_keysNow_0 (by decide) ?_
  refine lv_istore_n (lv' := [(1, .int (nI 0)), (0, .ref g0)]) hx hb dX0_keysNow_1 rfl hl (by decide) rfl (fun ls hl => ?_)
  refine lv_iconst (v := nI 0) hx hb dX0_keysNow_2 (by decide) ?_
  refine lv_istore_n (lv' := [(2, .int (nI 0)), (1, .int (nI 0)), (0, .ref g0)]) hx hb dX0_keysNow_3 rfl hl (by decide) rfl (fun ls hl => ?_)
  have hloop_4 : ∀ (k : Nat) (f : Nat) (i : Nat), n - i < k → i ≤ n → f = cnt (fun t => hld sf rf pf t (nI r)) i → ∀ (ls : Array Slot), lv_has ls 3 [(0, .ref g0), (1, .int (nI f)), (2, .int (nI i))] → W p l e ({ frames := 1, cells := 0, slots := 0, locals := 22 } : Room) s m ([.ref g0] : List Value).toArray below meth c s.heap [] 0 0 (MQ below (vp_Si (fun x => x = nI (cnt (fun t => hld sf rf pf t (nI r)) n))) ([.ref g0] : List Value).toArray s 0 0 (fun _ => False)) (F0 m 4 ls []) := by
    intro k
    induction k with
    | zero => intro f i hm; exact absurd hm (Nat.not_lt_zero _)
    | succ k ih_4 =>
      intro f i hm_4 hi hf ls hl
      refine lv_iload_n hx hb dX0_keysNow_4 rfl (lv_at hl 2 rfl) ?_
      refine lv_aload_n hx hb dX0_keysNow_5 rfl (lv_at hl 0 rfl) ?_
      refine va_get (D := D) (ci := 0) (v := .int (nI n)) (C := RX0) (T := TX0) (N := 10) hx hb hts mu_X0 hown hK hP 0 rfl rfl 1 (by decide) (hts _ (List.mem_cons_of_mem _ mw_30)) (fun _ h9 => h9) rfl dX0_keysNow_6 ?_
      refine lv_icmp_ge (tgt := 33) hx hb dX0_keysNow_9 (by decide) (fun c_9 => ?_) (fun c_9 => ?_)
      · have c_9 := (nI_leI (by omega) (by omega)).mp c_9
        refine lv_iload_n hx hb dX0_keysNow_33 rfl (lv_at hl 1 rfl) ?_
        exact W.iret (v := (nI f)) hx hb hr (fun t ht hW => ⟨_, rfl, (by rw [hf, show i = n by omega]), ht⟩) (fun q h => nomatch h) dX0_keysNow_34
      · have c_9 := mt (nI_leI (by omega) (by omega)).mpr c_9
        refine lv_aload_n hx hb dX0_keysNow_12 rfl (lv_at hl 0 rfl) ?_
        refine lv_iload_n hx hb dX0_keysNow_13 rfl (lv_at hl 2 rfl) ?_
        refine lv_aload_n hx hb dX0_keysNow_14 rfl (lv_at hl 0 rfl) ?_
        refine va_get (D := D) (ci := 0) (v := .int (nI r)) (C := RX0) (T := TX0) (N := 10) hx hb hts mu_X0 hown hK hP 0 rfl rfl 0 (by decide) (hts _ (List.mem_cons_of_mem _ mw_27)) (fun _ h9 => h9) rfl dX0_keysNow_15 ?_
        refine ro_callVi (As := [.int (nI i), .int (nI r)]) (rest := []) ⟨hx, hb, hml, hown, hts⟩ (c_X0_holds l D cI cJ cZ g0 gk gr gs gv gw gc gp gb r n kf rf sf vf wf cf pf bf i (by omega) (nI r)) (cwV 2 hts (wB_V mw_133 mw_135 ms_0 mw_2 mw_136) rfl rfl rfl (by decide +kernel) ⟨Nat.le_of_ble_eq_true rfl, Nat.le_of_ble_eq_true rfl⟩) (va_recv hK hP (ci := 0) (q0 := 0) rfl rfl) (hP.sub (ws' := [(g0, .inr (0, [.int (nI r), .int (nI n), .ref gk, .ref gr, .ref gs, .ref gv, .ref gw, .ref gc, .ref gp, .ref gb])), (gk, .inl (cI, 300, .inl kf)), (gr, .inl (cI, 300, .inl rf)), (gs, .inl (cZ, 300, .inl sf)), (gv, .inl (cJ, 300, .inr (.inl vf))), (gw, .inl (cI, 300, .inl wf)), (gc, .inl (cI, 300, .inl cf)), (gp, .inl (cI, 300, .inl pf)), (gb, .inl (cI, 300, .inl bf))]) [0, 1, 2, 3, 4, 5, 6, 7, 8] rfl) hK rfl hl.1 (Nat.le_of_ble_eq_true rfl) ⟨Nat.le_of_ble_eq_true rfl, Nat.le_of_ble_eq_true rfl⟩ rfl dX0_keysNow_18 (fun r_18 hw_18 => ?_)
        try dsimp only at hw_18
        rcases hw_18 with ⟨rfl, hw_18⟩ | ⟨rfl, hw_18⟩
        · skip
          refine lv_if_eq (tgt := 27) hx hb dX0_keysNow_21 (by decide) (fun c => absurd c (by decide)) (fun _ => ?_)
          refine lv_iinc (v := nI (f + 1)) (lv' := [(1, .int (nI (f + 1))), (0, .ref g0), (2, .int (nI i))]) hx hb dX0_keysNow_24 hl (k := 1) rfl (by rw [show Int32.ofInt 1 = nI 1 by decide, nI_add]) (by decide) rfl (fun ls hl => ?_)
          refine lv_iinc (v := nI (i + 1)) (lv' := [(2, .int (nI (i + 1))), (1, .int (nI (f + 1))), (0, .ref g0)]) hx hb dX0_keysNow_27 hl (k := 2) rfl (by rw [show Int32.ofInt 1 = nI 1 by decide, nI_add]) (by decide) rfl (fun ls hl => ?_)
          refine lv_goto (tgt := 4) hx hb dX0_keysNow_30 (by decide) ?_
          exact ih_4 (f + 1) (i + 1) (by omega) (by omega) (by first | rw [cnt_1 hw_18, hf] | rw [cnt_0 hw_18, hf]) ls (lv_sub hl [2, 1, 0] rfl)
        · skip
          refine lv_if_eq (tgt := 27) hx hb dX0_keysNow_21 (by decide) (fun _ => ?_) (fun c => absurd (by decide) c)
          refine lv_iinc (v := nI (i + 1)) (lv' := [(2, .int (nI (i + 1))), (0, .ref g0), (1, .int (nI f))]) hx hb dX0_keysNow_27 hl (k := 2) rfl (by rw [show Int32.ofInt 1 = nI 1 by decide, nI_add]) (by decide) rfl (fun ls hl => ?_)
          refine lv_goto (tgt := 4) hx hb dX0_keysNow_30 (by decide) ?_
          exact ih_4 f (i + 1) (by omega) (by omega) (by first | rw [cnt_1 hw_18, hf] | rw [cnt_0 hw_18, hf]) ls (lv_sub hl [1, 2, 0] rfl)
  -- on to the loop
  exact hloop_4 ((n - 0) + 1) 0 0 (Nat.lt_succ_self _) (by omega) (rfl) ls (lv_sub hl [2, 1, 0] rfl)
set_option maxHeartbeats 4000000 in
set_option maxRecDepth 100000 in
theorem c_X0_firstEventFrom (l : Launch) (D : va_G) (cI cJ cZ : ClassId) (g0 gk gr gs gv gw gc gp gb r n : Nat) (kf rf sf : Nat → Int32) (vf : Nat → Int64) (wf cf pf bf : Nat → Int32) (hn : n ≤ 300) (fr : Int32) : Met l yX0_firstEventFrom (Cond.code yX0_firstEventFrom cX0_firstEventFrom 3 (some .int) :: wB) ({ frames := 0, cells := 0, slots := 0, locals := 0 } : Room) (ro_Pc D cI cJ cZ [.ref g0, .int fr] [(g0, .inr (0, [.int (nI r), .int (nI n), .ref gk, .ref gr, .ref gs, .ref gv, .ref gw, .ref gc, .ref gp, .ref gb])), (gk, .inl (cI, 300, .inl kf)), (gr, .inl (cI, 300, .inl rf)), (gs, .inl (cZ, 300, .inl sf)), (gv, .inl (cJ, 300, .inr (.inl vf))), (gw, .inl (cI, 300, .inl wf)), (gc, .inl (cI, 300, .inl cf)), (gp, .inl (cI, 300, .inl pf)), (gb, .inl (cI, 300, .inl bf))]) (vp_Si (fun x => ∃ f, f ≤ n ∧ x = nI f ∧ (∀ q, q < f → rf q < fr) ∧ (f = n ∨ ¬ rf f < fr))) 0 0 (fun _ => False) := by
  refine Met.ofW (cc := cX0_firstEventFrom) (maxL := 3) (ret := (some .int)) (by decide) rfl ?_
  intro p e s m args below meth c s₁ B hml hv
  obtain ⟨rfl, hP, hK⟩ := hv
  have hx := B.exec
  have hb := B.bytes
  have hr := B.returns
  have hts := atoms_spec (ws := (Cond.code yX0_firstEventFrom cX0_firstEventFrom 3 (some .int) :: wB)) B.pre
  have hown : s.vm.findClass RX0 = some m.cls := findClass_of_methodNamed B.named
  have hlocks := B.notSynchronized
  have hl := lv_entry ([.ref g0, .int fr]) (n := 3) (Nat.le_of_ble_eq_true rfl)
  rw [lg_entry_eq]
  generalize (lg_sl ([.ref g0, .int fr]) ++ List.replicate (3 - (lg_sl ([.ref g0, .int fr])).length) Slot.unset).toArray = ls at hl ⊢
  have hl : lv_has ls 3 [(0, .ref g0), (1, .int fr)] := hl
  refine lv_iconst (v := nI 0) hx hb dX0_firstEventFrom_0 (by decide) ?_
  refine lv_istore_n (lv' := [(2, .int (nI 0)), (0, .ref g0), (1, .int fr)]) hx hb dX0_firstEventFrom_1 rfl hl (by decide) rfl (fun ls hl => ?_)
  have hloop_2 : ∀ (k : Nat) (i : Nat), n - i < k → i ≤ n → (∀ q, q < i → rf q < fr) → ∀ (ls : Array Slot), lv_has ls 3 [(0, .ref g0), (1, .int fr), (2, .int (nI i))] → W p l e ({ frames := 0, cells := 0, slots := 0, locals := 0 } : Room) s m ([.ref g0, .int fr] : List Value).toArray below meth c s.heap [] 0 0 (MQ below (vp_Si (fun x => ∃ f, f ≤ n ∧ x = nI f ∧ (∀ q, q < f → rf q < fr) ∧ (f = n ∨ ¬ rf f < fr))) ([.ref g0, .int fr] : List Value).toArray s 0 0 (fun _ => False)) (F0 m 2 ls []) := by
    intro k
    induction k with
    | zero => intro i hm; exact absurd hm (Nat.not_lt_zero _)
    | succ k ih_2 =>
      intro i hm_2 hi hq ls hl
      refine lv_iload_n hx hb dX0_firstEventFrom_2 rfl (lv_at hl 2 rfl) ?_
      refine lv_aload_n hx hb dX0_firstEventFrom_3 rfl (lv_at hl 0 rfl) ?_
      refine va_get (D := D) (ci := 0) (v := .int (nI n)) (C := RX0) (T := TX0) (N := 10) hx hb hts mu_X0 hown hK hP 0 rfl rfl 1 (by decide) (hts _ (List.mem_cons_of_mem _ mw_30)) (fun _ h9 => h9) rfl dX0_firstEventFrom_4 ?_
      refine lv_icmp_ge (tgt := 26) hx hb dX0_firstEventFrom_7 (by decide) (fun c_7 => ?_) (fun c_7 => ?_)
      · have c_7 := (nI_leI (by omega) (by omega)).mp c_7
        refine lv_iload_n hx hb dX0_firstEventFrom_26 rfl (lv_at hl 2 rfl) ?_
        exact W.iret (v := (nI i)) hx hb hr (fun t ht hW => ⟨_, rfl, ⟨i, hi, rfl, hq, by first | exact Or.inr (i_len c_17) | exact Or.inl (by omega)⟩, ht⟩) (fun q h => nomatch h) dX0_firstEventFrom_27
      · have c_7 := mt (nI_leI (by omega) (by omega)).mpr c_7
        refine lv_aload_n hx hb dX0_firstEventFrom_10 rfl (lv_at hl 0 rfl) ?_
        refine va_get (D := D) (ci := 0) (v := .ref gr) (C := RX0) (T := TX0) (N := 10) hx hb hts mu_X0 hown hK hP 0 rfl rfl 3 (by decide) (hts _ (List.mem_cons_of_mem _ mw_34)) (fun _ h9 => h9) rfl dX0_firstEventFrom_11 ?_
        refine lv_iload_n hx hb dX0_firstEventFrom_14 rfl (lv_at hl 2 rfl) ?_
        refine rk_iald hx hb hK hP 2 0 rfl rfl (i := i) (by omega) (by decide) dX0_firstEventFrom_15 ?_
        refine lv_iload_n hx hb dX0_firstEventFrom_16 rfl (lv_at hl 1 rfl) ?_
        refine lv_icmp_ge (tgt := 26) hx hb dX0_firstEventFrom_17 (by decide) (fun c_17 => ?_) (fun c_17 => ?_)
        · skip
          refine lv_iload_n hx hb dX0_firstEventFrom_26 rfl (lv_at hl 2 rfl) ?_
          exact W.iret (v := (nI i)) hx hb hr (fun t ht hW => ⟨_, rfl, ⟨i, hi, rfl, hq, by first | exact Or.inr (i_len c_17) | exact Or.inl (by omega)⟩, ht⟩) (fun q h => nomatch h) dX0_firstEventFrom_27
        · skip
          refine lv_iinc (v := nI (i + 1)) (lv' := [(2, .int (nI (i + 1))), (0, .ref g0), (1, .int fr)]) hx hb dX0_firstEventFrom_20 hl (k := 2) rfl (by rw [show Int32.ofInt 1 = nI 1 by decide, nI_add]) (by decide) rfl (fun ls hl => ?_)
          refine lv_goto (tgt := 2) hx hb dX0_firstEventFrom_23 (by decide) ?_
          exact ih_2 (i + 1) (by omega) (by omega) (by intro q hq1; rcases ls_or hq1 with h | h; exact hq q h; subst h; exact i_nle c_17) ls (lv_sub hl [1, 2, 0] rfl)
  -- on to the loop
  exact hloop_2 ((n - 0) + 1) 0 (Nat.lt_succ_self _) (by omega) (fun q h => absurd h (Nat.not_lt_zero q)) ls (lv_sub hl [1, 2, 0] rfl)
set_option maxHeartbeats 4000000 in
set_option maxRecDepth 100000 in
theorem c_X0_describe (l : Launch) (D : va_G) (cI cJ cZ : ClassId) (g0 gk gr gs gv gw gc gp gb r n : Nat) (kf rf sf : Nat → Int32) (vf : Nat → Int64) (wf cf pf bf : Nat → Int32) (ev : Nat) (he : ev < 300) (w : Int32) : Met l yX0_describe (Cond.code yX0_describe cX0_describe 3 (some .int) :: wB) ({ frames := 0, cells := 0, slots := 0, locals := 0 } : Room) (ro_Pc D cI cJ cZ [.ref g0, .int (nI ev), .int w] [(g0, .inr (0, [.int (nI r), .int (nI n), .ref gk, .ref gr, .ref gs, .ref gv, .ref gw, .ref gc, .ref gp, .ref gb])), (gk, .inl (cI, 300, .inl kf)), (gr, .inl (cI, 300, .inl rf)), (gs, .inl (cZ, 300, .inl sf)), (gv, .inl (cJ, 300, .inr (.inl vf))), (gw, .inl (cI, 300, .inl wf)), (gc, .inl (cI, 300, .inl cf)), (gp, .inl (cI, 300, .inl pf)), (gb, .inl (cI, 300, .inl bf))]) (vp_Si (fun x => (w = nI 0 ∧ x = kf ev) ∨ (w ≠ nI 0 ∧ w = nI 1 ∧ x = rf ev) ∨ (w ≠ nI 0 ∧ w ≠ nI 1 ∧ ((sf ev ≠ 0 ∧ x = nI 1) ∨ (sf ev = 0 ∧ x = nI 0))))) 0 0 (fun _ => False) := by
  refine Met.ofW (cc := cX0_describe) (maxL := 3) (ret := (some .int)) (by decide) rfl ?_
  intro p e s m args below meth c s₁ B hml hv
  obtain ⟨rfl, hP, hK⟩ := hv
  have hx := B.exec
  have hb := B.bytes
  have hr := B.returns
  have hts := atoms_spec (ws := (Cond.code yX0_describe cX0_describe 3 (some .int) :: wB)) B.pre
  have hown : s.vm.findClass RX0 = some m.cls := findClass_of_methodNamed B.named
  have hlocks := B.notSynchronized
  have hl := lv_entry ([.ref g0, .int (nI ev), .int w]) (n := 3) (Nat.le_of_ble_eq_true rfl)
  rw [lg_entry_eq]
  generalize (lg_sl ([.ref g0, .int (nI ev), .int w]) ++ List.replicate (3 - (lg_sl ([.ref g0, .int (nI ev), .int w])).length) Slot.unset).toArray = ls at hl ⊢
  have hl : lv_has ls 3 [(0, .ref g0), (1, .int (nI ev)), (2, .int w)] := hl
  refine lv_iload_n hx hb dX0_describe_0 rfl (lv_at hl 2 rfl) ?_
  by_cases s1_0 : w = nI 0
  · refine lv_lookup (tgt := 28) (off := 27) hx hb dX0_describe_1 (by decide) (by rw [s1_0]; first | done | rfl) (by decide) ?_
    refine lv_aload_n hx hb dX0_describe_28 rfl (lv_at hl 0 rfl) ?_
    refine va_get (D := D) (ci := 0) (v := .ref gk) (C := RX0) (T := TX0) (N := 10) hx hb hts mu_X0 hown hK hP 0 rfl rfl 2 (by decide) (hts _ (List.mem_cons_of_mem _ mw_32)) (fun _ h9 => h9) rfl dX0_describe_29 ?_
    refine lv_iload_n hx hb dX0_describe_32 rfl (lv_at hl 1 rfl) ?_
    refine rk_iald hx hb hK hP 1 0 rfl rfl (i := ev) (by omega) (by decide) dX0_describe_33 ?_
    exact W.iret (v := (kf ev)) hx hb hr (fun t ht hW => ⟨_, rfl, (Or.inl ⟨s1_0, rfl⟩), ht⟩) (fun q h => nomatch h) dX0_describe_34
  · by_cases s1_1 : w = nI 1
    · refine lv_lookup (tgt := 35) (off := 34) hx hb dX0_describe_1 (by decide) (by rw [s1_1]; first | done | rfl) (by decide) ?_
      refine lv_aload_n hx hb dX0_describe_35 rfl (lv_at hl 0 rfl) ?_
      refine va_get (D := D) (ci := 0) (v := .ref gr) (C := RX0) (T := TX0) (N := 10) hx hb hts mu_X0 hown hK hP 0 rfl rfl 3 (by decide) (hts _ (List.mem_cons_of_mem _ mw_34)) (fun _ h9 => h9) rfl dX0_describe_36 ?_
      refine lv_iload_n hx hb dX0_describe_39 rfl (lv_at hl 1 rfl) ?_
      refine rk_iald hx hb hK hP 2 0 rfl rfl (i := ev) (by omega) (by decide) dX0_describe_40 ?_
      exact W.iret (v := (rf ev)) hx hb hr (fun t ht hW => ⟨_, rfl, (Or.inr (Or.inl ⟨s1_0, s1_1, rfl⟩)), ht⟩) (fun q h => nomatch h) dX0_describe_41
    · have zs1_0 : ¬ (0 : Int) = (w).toInt := fun q => lv_neT s1_0 (a := 0) (by decide) q.symm
      have zs1_1 : ¬ (1 : Int) = (w).toInt := fun q => lv_neT s1_1 (a := 1) (by decide) q.symm
      refine lv_lookup (tgt := 42) (off := 41) hx hb dX0_describe_1 (by decide) (by simp [Op.lookupswitch.offset, zs1_0, zs1_1]) (by decide) ?_
      refine lv_aload_n hx hb dX0_describe_42 rfl (lv_at hl 0 rfl) ?_
      refine va_get (D := D) (ci := 0) (v := .ref gs) (C := RX0) (T := TX0) (N := 10) hx hb hts mu_X0 hown hK hP 0 rfl rfl 4 (by decide) (hts _ (List.mem_cons_of_mem _ mw_35)) (fun _ h9 => h9) rfl dX0_describe_43 ?_
      refine lv_iload_n hx hb dX0_describe_46 rfl (lv_at hl 1 rfl) ?_
      refine rk_zald hx hb hK hP 3 2 rfl rfl (i := ev) (by omega) (by decide) dX0_describe_47 ?_
      refine lv_if_eq (tgt := 55) hx hb dX0_describe_48 (by decide) (fun c_48 => ?_) (fun c_48 => ?_)
      · skip
        refine lv_iconst (v := nI 0) hx hb dX0_describe_55 (by decide) ?_
        exact W.iret (v := (nI 0)) hx hb hr (fun t ht hW => ⟨_, rfl, (Or.inr (Or.inr ⟨s1_0, s1_1, by first | exact Or.inl ⟨c_48, rfl⟩ | exact Or.inr ⟨c_48, rfl⟩⟩)), ht⟩) (fun q h => nomatch h) dX0_describe_56
      · skip
        refine lv_iconst (v := nI 1) hx hb dX0_describe_51 (by decide) ?_
        refine lv_goto (tgt := 56) hx hb dX0_describe_52 (by decide) ?_
        exact W.iret (v := (nI 1)) hx hb hr (fun t ht hW => ⟨_, rfl, (Or.inr (Or.inr ⟨s1_0, s1_1, by first | exact Or.inl ⟨c_48, rfl⟩ | exact Or.inr ⟨c_48, rfl⟩⟩)), ht⟩) (fun q h => nomatch h) dX0_describe_56
end
section
set_option maxHeartbeats 4000000 in
set_option maxRecDepth 100000 in
theorem c_X0_openRevision (l : Launch) (D : va_G) (cI cJ cZ : ClassId) (sz : Nat) (g0 gk gr gs gv gw gc gp gb r n : Nat) (kf rf sf : Nat → Int32) (vf : Nat → Int64) (wf cf pf bf : Nat → Int32) : Met l yX0_openRevision (Cond.code yX0_openRevision cX0_openRevision 1 none :: wB) ({ frames := 0, cells := 0, slots := 0, locals := 0 } : Room) (rw_Pc D cI cJ cZ sz [.ref g0] [(g0, .inr (0, [.int (nI r), .int (nI n), .ref gk, .ref gr, .ref gs, .ref gv, .ref gw, .ref gc, .ref gp, .ref gb])), (gk, .inl (cI, 300, .inl kf)), (gr, .inl (cI, 300, .inl rf)), (gs, .inl (cZ, 300, .inl sf)), (gv, .inl (cJ, 300, .inr (.inl vf))), (gw, .inl (cI, 300, .inl wf)), (gc, .inl (cI, 300, .inl cf)), (gp, .inl (cI, 300, .inl pf)), (gb, .inl (cI, 300, .inl bf))]) (rw_Qv (S := Unit) D cI cJ cZ sz [(g0, .inr (0, [.int (nI r), .int (nI n), .ref gk, .ref gr, .ref gs, .ref gv, .ref gw, .ref gc, .ref gp, .ref gb])), (gk, .inl (cI, 300, .inl kf)), (gr, .inl (cI, 300, .inl rf)), (gs, .inl (cZ, 300, .inl sf)), (gv, .inl (cJ, 300, .inr (.inl vf))), (gw, .inl (cI, 300, .inl wf)), (gc, .inl (cI, 300, .inl cf)), (gp, .inl (cI, 300, .inl pf)), (gb, .inl (cI, 300, .inl bf))] (fun u => [(g0, .inr (0, [.int (nI (r + 1)), .int (nI n), .ref gk, .ref gr, .ref gs, .ref gv, .ref gw, .ref gc, .ref gp, .ref gb])), (gk, .inl (cI, 300, .inl kf)), (gr, .inl (cI, 300, .inl rf)), (gs, .inl (cZ, 300, .inl sf)), (gv, .inl (cJ, 300, .inr (.inl vf))), (gw, .inl (cI, 300, .inl wf)), (gc, .inl (cI, 300, .inl cf)), (gp, .inl (cI, 300, .inl pf)), (gb, .inl (cI, 300, .inl bf))]) (fun _ => True)) 0 0 (va_A [(g0, .inr (0, [.int (nI r), .int (nI n), .ref gk, .ref gr, .ref gs, .ref gv, .ref gw, .ref gc, .ref gp, .ref gb])), (gk, .inl (cI, 300, .inl kf)), (gr, .inl (cI, 300, .inl rf)), (gs, .inl (cZ, 300, .inl sf)), (gv, .inl (cJ, 300, .inr (.inl vf))), (gw, .inl (cI, 300, .inl wf)), (gc, .inl (cI, 300, .inl cf)), (gp, .inl (cI, 300, .inl pf)), (gb, .inl (cI, 300, .inl bf))] sz) := by
  refine Met.ofW (cc := cX0_openRevision) (maxL := 1) (ret := none) (by decide) rfl ?_
  intro p e s m args below meth c s₁ B hml hv
  obtain ⟨rfl, hsz, hP, hK, hD0⟩ := hv
  have hx := B.exec
  have hb := B.bytes
  have hr := B.returns
  have hts := atoms_spec (ws := (Cond.code yX0_openRevision cX0_openRevision 1 none :: wB)) B.pre
  have hown : s.vm.findClass RX0 = some m.cls := findClass_of_methodNamed B.named
  have hlocks := B.notSynchronized
  subst hsz
  have hD := hD0.self (sz := s.heap.size)
  obtain ⟨A, hAe⟩ : ∃ A, A = va_A [(g0, .inr (0, [.int (nI r), .int (nI n), .ref gk, .ref gr, .ref gs, .ref gv, .ref gw, .ref gc, .ref gp, .ref gb])), (gk, .inl (cI, 300, .inl kf)), (gr, .inl (cI, 300, .inl rf)), (gs, .inl (cZ, 300, .inl sf)), (gv, .inl (cJ, 300, .inr (.inl vf))), (gw, .inl (cI, 300, .inl wf)), (gc, .inl (cI, 300, .inl cf)), (gp, .inl (cI, 300, .inl pf)), (gb, .inl (cI, 300, .inl bf))] s.heap.size := ⟨_, rfl⟩
  rw [← hAe] at hD
  have hA : ∀ q : Nat, s.heap.size ≤ q → A q := fun q h => by rw [hAe]; exact Or.inr h
  have hS : va_S A s.heap s.heap [] := va_S.rf
  have hl := lv_entry ([.ref g0]) (n := 1) (Nat.le_of_ble_eq_true rfl)
  rw [lg_entry_eq]
  generalize (lg_sl ([.ref g0]) ++ List.replicate (1 - (lg_sl ([.ref g0])).length) Slot.unset).toArray = ls at hl ⊢
  have hl : lv_has ls 1 [(0, .ref g0)] := hl
  refine lv_aload_n hx hb dX0_openRevision_0 rfl (lv_at hl 0 rfl) ?_
  refine lv_dup hx hb dX0_openRevision_1 rfl ?_
  refine va_get (D := D) (ci := 0) (v := .int (nI r)) (C := RX0) (T := TX0) (N := 10) hx hb hts mu_X0 hown hK hP 0 rfl rfl 0 (by decide) (hts _ (List.mem_cons_of_mem _ mw_27)) (fun _ h9 => h9) rfl dX0_openRevision_2 ?_
  refine lv_iconst (v := nI 1) hx hb dX0_openRevision_5 (by decide) ?_
  refine rk_iadd hx hb dX0_openRevision_6 ?_
  refine va_put (D := D) (ci := 0) (v := .int (nI (r + 1))) (ty := .int) (C := RX0) (T := TX0) (N := 10) hx hb hts mu_X0 tyX0 tyX0_ok nmX0 hown hK hP hD hS 0 rfl rfl 0 (by decide) (hts _ (List.mem_cons_of_mem _ mw_27)) (fun _ h9 => h9) rfl (by decide +kernel) rfl rfl (Nat.le_of_ble_eq_true rfl) dX0_openRevision_7 (fun H locs hP hD hS => ?_)
  have hP : va_P D vwCl [(g0, .inr (0, [.int (nI (r + 1)), .int (nI n), .ref gk, .ref gr, .ref gs, .ref gv, .ref gw, .ref gc, .ref gp, .ref gb])), (gk, .inl (cI, 300, .inl kf)), (gr, .inl (cI, 300, .inl rf)), (gs, .inl (cZ, 300, .inl sf)), (gv, .inl (cJ, 300, .inr (.inl vf))), (gw, .inl (cI, 300, .inl wf)), (gc, .inl (cI, 300, .inl cf)), (gp, .inl (cI, 300, .inl pf)), (gb, .inl (cI, 300, .inl bf))] H := hP
  have hD : va_D A [(g0, .inr (0, [.int (nI (r + 1)), .int (nI n), .ref gk, .ref gr, .ref gs, .ref gv, .ref gw, .ref gc, .ref gp, .ref gb])), (gk, .inl (cI, 300, .inl kf)), (gr, .inl (cI, 300, .inl rf)), (gs, .inl (cZ, 300, .inl sf)), (gv, .inl (cJ, 300, .inr (.inl vf))), (gw, .inl (cI, 300, .inl wf)), (gc, .inl (cI, 300, .inl cf)), (gp, .inl (cI, 300, .inl pf)), (gb, .inl (cI, 300, .inl bf))] := hD
  exact rw_retv (u := ()) hAe (hP) (hD) hS hK (trivial) (Nat.le_of_ble_eq_true rfl) (Nat.le_of_ble_eq_true rfl) hx hb hr hlocks dX0_openRevision_10
set_option maxHeartbeats 4000000 in
set_option maxRecDepth 100000 in
theorem c_X0_sortIn (l : Launch) (D : va_G) (cI cJ cZ : ClassId) (sz : Nat) (g0 gk gr gs gv gw gc gp gb r n : Nat) (kf rf sf : Nat → Int32) (vf : Nat → Int64) (wf cf pf bf : Nat → Int32) (bn : Nat → Nat) (ev : Nat) (hev : ev < 300) (hbn : ∀ q, q < ev → bf q = nI (bn q) ∧ bn q < 300) : Met l yX0_sortIn (Cond.code yX0_sortIn cX0_sortIn 3 none :: wB) ({ frames := 0, cells := 0, slots := 0, locals := 0 } : Room) (rw_Pc D cI cJ cZ sz [.ref g0, .int (nI ev)] [(g0, .inr (0, [.int (nI r), .int (nI n), .ref gk, .ref gr, .ref gs, .ref gv, .ref gw, .ref gc, .ref gp, .ref gb])), (gk, .inl (cI, 300, .inl kf)), (gr, .inl (cI, 300, .inl rf)), (gs, .inl (cZ, 300, .inl sf)), (gv, .inl (cJ, 300, .inr (.inl vf))), (gw, .inl (cI, 300, .inl wf)), (gc, .inl (cI, 300, .inl cf)), (gp, .inl (cI, 300, .inl pf)), (gb, .inl (cI, 300, .inl bf))]) (rw_Qv (S := Nat → Int32) D cI cJ cZ sz [(g0, .inr (0, [.int (nI r), .int (nI n), .ref gk, .ref gr, .ref gs, .ref gv, .ref gw, .ref gc, .ref gp, .ref gb])), (gk, .inl (cI, 300, .inl kf)), (gr, .inl (cI, 300, .inl rf)), (gs, .inl (cZ, 300, .inl sf)), (gv, .inl (cJ, 300, .inr (.inl vf))), (gw, .inl (cI, 300, .inl wf)), (gc, .inl (cI, 300, .inl cf)), (gp, .inl (cI, 300, .inl pf)), (gb, .inl (cI, 300, .inl bf))] (fun b1 => [(g0, .inr (0, [.int (nI r), .int (nI n), .ref gk, .ref gr, .ref gs, .ref gv, .ref gw, .ref gc, .ref gp, .ref gb])), (gk, .inl (cI, 300, .inl kf)), (gr, .inl (cI, 300, .inl rf)), (gs, .inl (cZ, 300, .inl sf)), (gv, .inl (cJ, 300, .inr (.inl vf))), (gw, .inl (cI, 300, .inl wf)), (gc, .inl (cI, 300, .inl cf)), (gp, .inl (cI, 300, .inl pf)), (gb, .inl (cI, 300, .inl b1))]) (fun b1 => srt kf bn b1 ev)) 0 0 (va_A [(g0, .inr (0, [.int (nI r), .int (nI n), .ref gk, .ref gr, .ref gs, .ref gv, .ref gw, .ref gc, .ref gp, .ref gb])), (gk, .inl (cI, 300, .inl kf)), (gr, .inl (cI, 300, .inl rf)), (gs, .inl (cZ, 300, .inl sf)), (gv, .inl (cJ, 300, .inr (.inl vf))), (gw, .inl (cI, 300, .inl wf)), (gc, .inl (cI, 300, .inl cf)), (gp, .inl (cI, 300, .inl pf)), (gb, .inl (cI, 300, .inl bf))] sz) := by
  refine Met.ofW (cc := cX0_sortIn) (maxL := 3) (ret := none) (by decide) rfl ?_
  intro p e s m args below meth c s₁ B hml hv
  obtain ⟨rfl, hsz, hP, hK, hD0⟩ := hv
  have hx := B.exec
  have hb := B.bytes
  have hr := B.returns
  have hts := atoms_spec (ws := (Cond.code yX0_sortIn cX0_sortIn 3 none :: wB)) B.pre
  have hown : s.vm.findClass RX0 = some m.cls := findClass_of_methodNamed B.named
  have hlocks := B.notSynchronized
  subst hsz
  have hD := hD0.self (sz := s.heap.size)
  obtain ⟨A, hAe⟩ : ∃ A, A = va_A [(g0, .inr (0, [.int (nI r), .int (nI n), .ref gk, .ref gr, .ref gs, .ref gv, .ref gw, .ref gc, .ref gp, .ref gb])), (gk, .inl (cI, 300, .inl kf)), (gr, .inl (cI, 300, .inl rf)), (gs, .inl (cZ, 300, .inl sf)), (gv, .inl (cJ, 300, .inr (.inl vf))), (gw, .inl (cI, 300, .inl wf)), (gc, .inl (cI, 300, .inl cf)), (gp, .inl (cI, 300, .inl pf)), (gb, .inl (cI, 300, .inl bf))] s.heap.size := ⟨_, rfl⟩
  rw [← hAe] at hD
  have hA : ∀ q : Nat, s.heap.size ≤ q → A q := fun q h => by rw [hAe]; exact Or.inr h
  have hS : va_S A s.heap s.heap [] := va_S.rf
  have hl := lv_entry ([.ref g0, .int (nI ev)]) (n := 3) (Nat.le_of_ble_eq_true rfl)
  rw [lg_entry_eq]
  generalize (lg_sl ([.ref g0, .int (nI ev)]) ++ List.replicate (3 - (lg_sl ([.ref g0, .int (nI ev)])).length) Slot.unset).toArray = ls at hl ⊢
  have hl : lv_has ls 3 [(0, .ref g0), (1, .int (nI ev))] := hl
  refine lv_iload_n hx hb dX0_sortIn_0 rfl (lv_at hl 1 rfl) ?_
  refine lv_istore_n (lv' := [(2, .int (nI ev)), (0, .ref g0), (1, .int (nI ev))]) hx hb dX0_sortIn_1 rfl hl (by decide) rfl (fun ls hl => ?_)
  have hloop_2 : ∀ (k : Nat) (pl : Nat) (bx : Nat → Int32), pl < k → pl ≤ ev → (∀ q, q < pl → bx q = nI (bn q)) → (∀ q, pl < q → q ≤ ev → bx q = nI (bn (q - 1))) → (∀ q, pl ≤ q → q < ev → kf ev < kf (bn q)) → ∀ (H : Heap) (locs : List Loc), va_P D vwCl [(g0, .inr (0, [.int (nI r), .int (nI n), .ref gk, .ref gr, .ref gs, .ref gv, .ref gw, .ref gc, .ref gp, .ref gb])), (gk, .inl (cI, 300, .inl kf)), (gr, .inl (cI, 300, .inl rf)), (gs, .inl (cZ, 300, .inl sf)), (gv, .inl (cJ, 300, .inr (.inl vf))), (gw, .inl (cI, 300, .inl wf)), (gc, .inl (cI, 300, .inl cf)), (gp, .inl (cI, 300, .inl pf)), (gb, .inl (cI, 300, .inl bx))] H → va_D A [(g0, .inr (0, [.int (nI r), .int (nI n), .ref gk, .ref gr, .ref gs, .ref gv, .ref gw, .ref gc, .ref gp, .ref gb])), (gk, .inl (cI, 300, .inl kf)), (gr, .inl (cI, 300, .inl rf)), (gs, .inl (cZ, 300, .inl sf)), (gv, .inl (cJ, 300, .inr (.inl vf))), (gw, .inl (cI, 300, .inl wf)), (gc, .inl (cI, 300, .inl cf)), (gp, .inl (cI, 300, .inl pf)), (gb, .inl (cI, 300, .inl bx))] → va_S A s.heap H locs → ∀ (ls : Array Slot), lv_has ls 3 [(0, .ref g0), (1, .int (nI ev)), (2, .int (nI pl))] → W p l e ({ frames := 0, cells := 0, slots := 0, locals := 0 } : Room) s m ([.ref g0, .int (nI ev)] : List Value).toArray below meth c H locs 0 0 (MQ below (rw_Qv (S := Nat → Int32) D cI cJ cZ s.heap.size [(g0, .inr (0, [.int (nI r), .int (nI n), .ref gk, .ref gr, .ref gs, .ref gv, .ref gw, .ref gc, .ref gp, .ref gb])), (gk, .inl (cI, 300, .inl kf)), (gr, .inl (cI, 300, .inl rf)), (gs, .inl (cZ, 300, .inl sf)), (gv, .inl (cJ, 300, .inr (.inl vf))), (gw, .inl (cI, 300, .inl wf)), (gc, .inl (cI, 300, .inl cf)), (gp, .inl (cI, 300, .inl pf)), (gb, .inl (cI, 300, .inl bf))] (fun b1 => [(g0, .inr (0, [.int (nI r), .int (nI n), .ref gk, .ref gr, .ref gs, .ref gv, .ref gw, .ref gc, .ref gp, .ref gb])), (gk, .inl (cI, 300, .inl kf)), (gr, .inl (cI, 300, .inl rf)), (gs, .inl (cZ, 300, .inl sf)), (gv, .inl (cJ, 300, .inr (.inl vf))), (gw, .inl (cI, 300, .inl wf)), (gc, .inl (cI, 300, .inl cf)), (gp, .inl (cI, 300, .inl pf)), (gb, .inl (cI, 300, .inl b1))]) (fun b1 => srt kf bn b1 ev)) ([.ref g0, .int (nI ev)] : List Value).toArray s 0 0 (va_A [(g0, .inr (0, [.int (nI r), .int (nI n), .ref gk, .ref gr, .ref gs, .ref gv, .ref gw, .ref gc, .ref gp, .ref gb])), (gk, .inl (cI, 300, .inl kf)), (gr, .inl (cI, 300, .inl rf)), (gs, .inl (cZ, 300, .inl sf)), (gv, .inl (cJ, 300, .inr (.inl vf))), (gw, .inl (cI, 300, .inl wf)), (gc, .inl (cI, 300, .inl cf)), (gp, .inl (cI, 300, .inl pf)), (gb, .inl (cI, 300, .inl bf))] s.heap.size)) (F0 m 2 ls []) := by
    intro k
    induction k with
    | zero => intro pl bx hm; exact absurd hm (Nat.not_lt_zero _)
    | succ k ih_2 =>
      intro pl bx hm_2 hp h1 h2 h3 H locs hP hD hS ls hl
      refine lv_iload_n hx hb dX0_sortIn_2 rfl (lv_at hl 2 rfl) ?_
      refine lv_if_le (tgt := 48) hx hb dX0_sortIn_3 (by decide) (fun c_3 => ?_) (fun c_3 => ?_)
      · have c_3 := (zn_le0 (by omega)).mp c_3
        refine lv_aload_n hx hb dX0_sortIn_48 rfl (lv_at hl 0 rfl) ?_
        refine va_get (D := D) (ci := 0) (v := .ref gb) (C := RX0) (T := TX0) (N := 10) hx hb hts mu_X0 hown hK hP 0 rfl rfl 9 (by decide) (hts _ (List.mem_cons_of_mem _ mw_41)) (fun _ h9 => h9) rfl dX0_sortIn_49 ?_
        refine lv_iload_n hx hb dX0_sortIn_52 rfl (lv_at hl 2 rfl) ?_
        refine lv_iload_n hx hb dX0_sortIn_53 rfl (lv_at hl 1 rfl) ?_
        refine rk_iast hx hb hK hP hD hS 8 0 rfl rfl (i := pl) (by omega) (by decide) dX0_sortIn_54 (fun H locs hP hD hS => ?_)
        have hP : va_P D vwCl [(g0, .inr (0, [.int (nI r), .int (nI n), .ref gk, .ref gr, .ref gs, .ref gv, .ref gw, .ref gc, .ref gp, .ref gb])), (gk, .inl (cI, 300, .inl kf)), (gr, .inl (cI, 300, .inl rf)), (gs, .inl (cZ, 300, .inl sf)), (gv, .inl (cJ, 300, .inr (.inl vf))), (gw, .inl (cI, 300, .inl wf)), (gc, .inl (cI, 300, .inl cf)), (gp, .inl (cI, 300, .inl pf)), (gb, .inl (cI, 300, .inl (upd bx pl (nI ev))))] H := hP
        have hD : va_D A [(g0, .inr (0, [.int (nI r), .int (nI n), .ref gk, .ref gr, .ref gs, .ref gv, .ref gw, .ref gc, .ref gp, .ref gb])), (gk, .inl (cI, 300, .inl kf)), (gr, .inl (cI, 300, .inl rf)), (gs, .inl (cZ, 300, .inl sf)), (gv, .inl (cJ, 300, .inr (.inl vf))), (gw, .inl (cI, 300, .inl wf)), (gc, .inl (cI, 300, .inl cf)), (gp, .inl (cI, 300, .inl pf)), (gb, .inl (cI, 300, .inl (upd bx pl (nI ev))))] := hD
        exact rw_retv (u := (upd bx pl (nI ev))) hAe (hP) (hD) hS hK (⟨pl, hp, pk_us, fun q hq => by rw [pk_un (by omega)]; exact h1 q hq, fun q hq1 hq2 => by rw [pk_un (by omega)]; exact h2 q hq1 hq2, by first | exact Or.inr c_25 | exact Or.inl (by omega), h3⟩) (Nat.le_of_ble_eq_true rfl) (Nat.le_of_ble_eq_true rfl) hx hb hr hlocks dX0_sortIn_55
      · have c_3 := mt (zn_le0 (by omega)).mpr c_3
        refine lv_aload_n hx hb dX0_sortIn_6 rfl (lv_at hl 0 rfl) ?_
        refine va_get (D := D) (ci := 0) (v := .ref gk) (C := RX0) (T := TX0) (N := 10) hx hb hts mu_X0 hown hK hP 0 rfl rfl 2 (by decide) (hts _ (List.mem_cons_of_mem _ mw_32)) (fun _ h9 => h9) rfl dX0_sortIn_7 ?_
        refine lv_aload_n hx hb dX0_sortIn_10 rfl (lv_at hl 0 rfl) ?_
        refine va_get (D := D) (ci := 0) (v := .ref gb) (C := RX0) (T := TX0) (N := 10) hx hb hts mu_X0 hown hK hP 0 rfl rfl 9 (by decide) (hts _ (List.mem_cons_of_mem _ mw_41)) (fun _ h9 => h9) rfl dX0_sortIn_11 ?_
        refine lv_iload_n hx hb dX0_sortIn_14 rfl (lv_at hl 2 rfl) ?_
        refine lv_iconst (v := nI 1) hx hb dX0_sortIn_15 (by decide) ?_
        refine rk_isub hx hb (by omega) dX0_sortIn_16 ?_
        refine rk_iald hx hb hK hP 8 0 rfl rfl (i := pl - 1) (by omega) (by decide) dX0_sortIn_17 ?_
        rw [h1 (pl - 1) (by omega)]
        refine rk_iald hx hb hK hP 1 0 rfl rfl (i := bn (pl - 1)) ((hbn (pl - 1) (by omega)).2) (by decide) dX0_sortIn_18 ?_
        refine lv_aload_n hx hb dX0_sortIn_19 rfl (lv_at hl 0 rfl) ?_
        refine va_get (D := D) (ci := 0) (v := .ref gk) (C := RX0) (T := TX0) (N := 10) hx hb hts mu_X0 hown hK hP 0 rfl rfl 2 (by decide) (hts _ (List.mem_cons_of_mem _ mw_32)) (fun _ h9 => h9) rfl dX0_sortIn_20 ?_
        refine lv_iload_n hx hb dX0_sortIn_23 rfl (lv_at hl 1 rfl) ?_
        refine rk_iald hx hb hK hP 1 0 rfl rfl (i := ev) (by omega) (by decide) dX0_sortIn_24 ?_
        refine lv_icmp_le (tgt := 48) hx hb dX0_sortIn_25 (by decide) (fun c_25 => ?_) (fun c_25 => ?_)
        · skip
          refine lv_aload_n hx hb dX0_sortIn_48 rfl (lv_at hl 0 rfl) ?_
          refine va_get (D := D) (ci := 0) (v := .ref gb) (C := RX0) (T := TX0) (N := 10) hx hb hts mu_X0 hown hK hP 0 rfl rfl 9 (by decide) (hts _ (List.mem_cons_of_mem _ mw_41)) (fun _ h9 => h9) rfl dX0_sortIn_49 ?_
          refine lv_iload_n hx hb dX0_sortIn_52 rfl (lv_at hl 2 rfl) ?_
          refine lv_iload_n hx hb dX0_sortIn_53 rfl (lv_at hl 1 rfl) ?_
          refine rk_iast hx hb hK hP hD hS 8 0 rfl rfl (i := pl) (by omega) (by decide) dX0_sortIn_54 (fun H locs hP hD hS => ?_)
          have hP : va_P D vwCl [(g0, .inr (0, [.int (nI r), .int (nI n), .ref gk, .ref gr, .ref gs, .ref gv, .ref gw, .ref gc, .ref gp, .ref gb])), (gk, .inl (cI, 300, .inl kf)), (gr, .inl (cI, 300, .inl rf)), (gs, .inl (cZ, 300, .inl sf)), (gv, .inl (cJ, 300, .inr (.inl vf))), (gw, .inl (cI, 300, .inl wf)), (gc, .inl (cI, 300, .inl cf)), (gp, .inl (cI, 300, .inl pf)), (gb, .inl (cI, 300, .inl (upd bx pl (nI ev))))] H := hP
          have hD : va_D A [(g0, .inr (0, [.int (nI r), .int (nI n), .ref gk, .ref gr, .ref gs, .ref gv, .ref gw, .ref gc, .ref gp, .ref gb])), (gk, .inl (cI, 300, .inl kf)), (gr, .inl (cI, 300, .inl rf)), (gs, .inl (cZ, 300, .inl sf)), (gv, .inl (cJ, 300, .inr (.inl vf))), (gw, .inl (cI, 300, .inl wf)), (gc, .inl (cI, 300, .inl cf)), (gp, .inl (cI, 300, .inl pf)), (gb, .inl (cI, 300, .inl (upd bx pl (nI ev))))] := hD
          exact rw_retv (u := (upd bx pl (nI ev))) hAe (hP) (hD) hS hK (⟨pl, hp, pk_us, fun q hq => by rw [pk_un (by omega)]; exact h1 q hq, fun q hq1 hq2 => by rw [pk_un (by omega)]; exact h2 q hq1 hq2, by first | exact Or.inr c_25 | exact Or.inl (by omega), h3⟩) (Nat.le_of_ble_eq_true rfl) (Nat.le_of_ble_eq_true rfl) hx hb hr hlocks dX0_sortIn_55
        · skip
          refine lv_aload_n hx hb dX0_sortIn_28 rfl (lv_at hl 0 rfl) ?_
          refine va_get (D := D) (ci := 0) (v := .ref gb) (C := RX0) (T := TX0) (N := 10) hx hb hts mu_X0 hown hK hP 0 rfl rfl 9 (by decide) (hts _ (List.mem_cons_of_mem _ mw_41)) (fun _ h9 => h9) rfl dX0_sortIn_29 ?_
          refine lv_iload_n hx hb dX0_sortIn_32 rfl (lv_at hl 2 rfl) ?_
          refine lv_aload_n hx hb dX0_sortIn_33 rfl (lv_at hl 0 rfl) ?_
          refine va_get (D := D) (ci := 0) (v := .ref gb) (C := RX0) (T := TX0) (N := 10) hx hb hts mu_X0 hown hK hP 0 rfl rfl 9 (by decide) (hts _ (List.mem_cons_of_mem _ mw_41)) (fun _ h9 => h9) rfl dX0_sortIn_34 ?_
          refine lv_iload_n hx hb dX0_sortIn_37 rfl (lv_at hl 2 rfl) ?_
          refine lv_iconst (v := nI 1) hx hb dX0_sortIn_38 (by decide) ?_
          refine rk_isub hx hb (by omega) dX0_sortIn_39 ?_
          refine rk_iald hx hb hK hP 8 0 rfl rfl (i := pl - 1) (by omega) (by decide) dX0_sortIn_40 ?_
          rw [h1 (pl - 1) (by omega)]
          refine rk_iast hx hb hK hP hD hS 8 0 rfl rfl (i := pl) (by omega) (by decide) dX0_sortIn_41 (fun H locs hP hD hS => ?_)
          have hP : va_P D vwCl [(g0, .inr (0, [.int (nI r), .int (nI n), .ref gk, .ref gr, .ref gs, .ref gv, .ref gw, .ref gc, .ref gp, .ref gb])), (gk, .inl (cI, 300, .inl kf)), (gr, .inl (cI, 300, .inl rf)), (gs, .inl (cZ, 300, .inl sf)), (gv, .inl (cJ, 300, .inr (.inl vf))), (gw, .inl (cI, 300, .inl wf)), (gc, .inl (cI, 300, .inl cf)), (gp, .inl (cI, 300, .inl pf)), (gb, .inl (cI, 300, .inl (upd bx pl (nI (bn (pl - 1))))))] H := hP
          have hD : va_D A [(g0, .inr (0, [.int (nI r), .int (nI n), .ref gk, .ref gr, .ref gs, .ref gv, .ref gw, .ref gc, .ref gp, .ref gb])), (gk, .inl (cI, 300, .inl kf)), (gr, .inl (cI, 300, .inl rf)), (gs, .inl (cZ, 300, .inl sf)), (gv, .inl (cJ, 300, .inr (.inl vf))), (gw, .inl (cI, 300, .inl wf)), (gc, .inl (cI, 300, .inl cf)), (gp, .inl (cI, 300, .inl pf)), (gb, .inl (cI, 300, .inl (upd bx pl (nI (bn (pl - 1))))))] := hD
          refine lv_iinc (v := nI (pl - 1)) (lv' := [(2, .int (nI (pl - 1))), (0, .ref g0), (1, .int (nI ev))]) hx hb dX0_sortIn_42 hl (k := 2) rfl (by rw [show Int32.ofInt (-1) = -1 by decide]; exact sb_m1 (by omega)) (by decide) rfl (fun ls hl => ?_)
          refine lv_goto (tgt := 2) hx hb dX0_sortIn_45 (by decide) ?_
          exact ih_2 (pl - 1) (upd bx pl (nI (bn (pl - 1)))) (by omega) (by omega) (fun q hq => by rw [pk_un (by omega)]; exact h1 q (by omega)) (by intro q hq1 hq2; by_cases hq : q = pl; (subst hq; exact pk_us); (rw [pk_un hq]; exact h2 q (by omega) hq2)) (by intro q hq1 hq2; by_cases hq : q = pl - 1; (rw [hq]; exact i_nle c_25); exact h3 q (by omega) hq2) H locs hP hD hS ls (lv_sub hl [1, 2, 0] rfl)
  -- on to the loop
  exact hloop_2 (ev + 1) ev bf (Nat.lt_succ_self _) (by omega) (fun q h => (hbn q h).1) (fun q h1 h2 => absurd h1 (by omega)) (fun q h1 h2 => absurd h1 (by omega)) _ _ hP hD hS ls (lv_sub hl [1, 2, 0] rfl)
set_option maxHeartbeats 4000000 in
set_option maxRecDepth 100000 in
theorem c_X0_append0 (l : Launch) (D : va_G) (cI cJ cZ : ClassId) (sz : Nat) (g0 gk gr gs gv gw gc gp gb r n : Nat) (kf rf sf : Nat → Int32) (vf : Nat → Int64) (wf cf pf bf : Nat → Int32) (bn : Nat → Nat) (hn : n < 300) (hr3 : r ≤ 300) (hbn : ∀ q, q < n → bf q = nI (bn q) ∧ bn q < n) (key : Int32) : Met l yX0_append (Cond.code yX0_append cX0_append 4 (some .int) :: wB) ({ frames := 1, cells := 0, slots := 0, locals := 22 } : Room) (rw_Pc D cI cJ cZ sz [.ref g0, .int key, .int (-1)] [(g0, .inr (0, [.int (nI r), .int (nI n), .ref gk, .ref gr, .ref gs, .ref gv, .ref gw, .ref gc, .ref gp, .ref gb])), (gk, .inl (cI, 300, .inl kf)), (gr, .inl (cI, 300, .inl rf)), (gs, .inl (cZ, 300, .inl sf)), (gv, .inl (cJ, 300, .inr (.inl vf))), (gw, .inl (cI, 300, .inl wf)), (gc, .inl (cI, 300, .inl cf)), (gp, .inl (cI, 300, .inl pf)), (gb, .inl (cI, 300, .inl bf))]) (rw_Qi (S := Nat → Int32) D cI cJ cZ sz [(g0, .inr (0, [.int (nI r), .int (nI n), .ref gk, .ref gr, .ref gs, .ref gv, .ref gw, .ref gc, .ref gp, .ref gb])), (gk, .inl (cI, 300, .inl kf)), (gr, .inl (cI, 300, .inl rf)), (gs, .inl (cZ, 300, .inl sf)), (gv, .inl (cJ, 300, .inr (.inl vf))), (gw, .inl (cI, 300, .inl wf)), (gc, .inl (cI, 300, .inl cf)), (gp, .inl (cI, 300, .inl pf)), (gb, .inl (cI, 300, .inl bf))] (fun b1 => [(g0, .inr (0, [.int (nI r), .int (nI (n + 1)), .ref gk, .ref gr, .ref gs, .ref gv, .ref gw, .ref gc, .ref gp, .ref gb])), (gk, .inl (cI, 300, .inl (upd kf n key))), (gr, .inl (cI, 300, .inl (upd rf n (nI r)))), (gs, .inl (cZ, 300, .inl sf)), (gv, .inl (cJ, 300, .inr (.inl vf))), (gw, .inl (cI, 300, .inl wf)), (gc, .inl (cI, 300, .inl cf)), (gp, .inl (cI, 300, .inl (upd pf n (nI 301)))), (gb, .inl (cI, 300, .inl b1))]) (fun x b1 => x = nI n ∧ srt (upd kf n key) bn b1 n)) 0 0 (va_A [(g0, .inr (0, [.int (nI r), .int (nI n), .ref gk, .ref gr, .ref gs, .ref gv, .ref gw, .ref gc, .ref gp, .ref gb])), (gk, .inl (cI, 300, .inl kf)), (gr, .inl (cI, 300, .inl rf)), (gs, .inl (cZ, 300, .inl sf)), (gv, .inl (cJ, 300, .inr (.inl vf))), (gw, .inl (cI, 300, .inl wf)), (gc, .inl (cI, 300, .inl cf)), (gp, .inl (cI, 300, .inl pf)), (gb, .inl (cI, 300, .inl bf))] sz) := by
  refine Met.ofW (cc := cX0_append) (maxL := 4) (ret := (some .int)) (by decide) rfl ?_
  intro p e s m args below meth c s₁ B hml hv
  obtain ⟨rfl, hsz, hP, hK, hD0⟩ := hv
  have hx := B.exec
  have hb := B.bytes
  have hr := B.returns
  have hts := atoms_spec (ws := (Cond.code yX0_append cX0_append 4 (some .int) :: wB)) B.pre
  have hown : s.vm.findClass RX0 = some m.cls := findClass_of_methodNamed B.named
  have hlocks := B.notSynchronized
  subst hsz
  have hD := hD0.self (sz := s.heap.size)
  obtain ⟨A, hAe⟩ : ∃ A, A = va_A [(g0, .inr (0, [.int (nI r), .int (nI n), .ref gk, .ref gr, .ref gs, .ref gv, .ref gw, .ref gc, .ref gp, .ref gb])), (gk, .inl (cI, 300, .inl kf)), (gr, .inl (cI, 300, .inl rf)), (gs, .inl (cZ, 300, .inl sf)), (gv, .inl (cJ, 300, .inr (.inl vf))), (gw, .inl (cI, 300, .inl wf)), (gc, .inl (cI, 300, .inl cf)), (gp, .inl (cI, 300, .inl pf)), (gb, .inl (cI, 300, .inl bf))] s.heap.size := ⟨_, rfl⟩
  rw [← hAe] at hD
  have hA : ∀ q : Nat, s.heap.size ≤ q → A q := fun q h => by rw [hAe]; exact Or.inr h
  have hS : va_S A s.heap s.heap [] := va_S.rf
  have hl := lv_entry ([.ref g0, .int key, .int (-1)]) (n := 4) (Nat.le_of_ble_eq_true rfl)
  rw [lg_entry_eq]
  generalize (lg_sl ([.ref g0, .int key, .int (-1)]) ++ List.replicate (4 - (lg_sl ([.ref g0, .int key, .int (-1)])).length) Slot.unset).toArray = ls at hl ⊢
  have hl : lv_has ls 4 [(0, .ref g0), (1, .int key), (2, .int (-1))] := hl
  refine lv_iload_n hx hb dX0_append_0 rfl (lv_at hl 2 rfl) ?_
  refine lv_iconst (v := -1) hx hb dX0_append_1 (by decide) ?_
  refine lv_icmp_eq (tgt := 15) hx hb dX0_append_2 (by decide) (fun _ => ?_) (fun c => absurd (by decide) c)
  refine lv_aload_n hx hb dX0_append_15 rfl (lv_at hl 0 rfl) ?_
  refine va_get (D := D) (ci := 0) (v := .int (nI n)) (C := RX0) (T := TX0) (N := 10) hx hb hts mu_X0 hown hK hP 0 rfl rfl 1 (by decide) (hts _ (List.mem_cons_of_mem _ mw_30)) (fun _ h9 => h9) rfl dX0_append_16 ?_
  refine lv_istore_n (lv' := [(3, .int (nI n)), (0, .ref g0), (1, .int key), (2, .int (-1))]) hx hb dX0_append_19 rfl hl (by decide) rfl (fun ls hl => ?_)
  refine lv_aload_n hx hb dX0_append_20 rfl (lv_at hl 1 rfl) ?_
  refine lv_dup hx hb dX0_append_21 rfl ?_
  refine va_get (D := D) (ci := 0) (v := .int (nI n)) (C := RX0) (T := TX0) (N := 10) hx hb hts mu_X0 hown hK hP 0 rfl rfl 1 (by decide) (hts _ (List.mem_cons_of_mem _ mw_30)) (fun _ h9 => h9) rfl dX0_append_22 ?_
  refine lv_iconst (v := nI 1) hx hb dX0_append_25 (by decide) ?_
  refine rk_iadd hx hb dX0_append_26 ?_
  refine va_put (D := D) (ci := 0) (v := .int (nI (n + 1))) (ty := .int) (C := RX0) (T := TX0) (N := 10) hx hb hts mu_X0 tyX0 tyX0_ok nmX0 hown hK hP hD hS 0 rfl rfl 1 (by decide) (hts _ (List.mem_cons_of_mem _ mw_30)) (fun _ h9 => h9) rfl (by decide +kernel) rfl rfl (Nat.le_of_ble_eq_true rfl) dX0_append_27 (fun H locs hP hD hS => ?_)
  have hP : va_P D vwCl [(g0, .inr (0, [.int (nI r), .int (nI (n + 1)), .ref gk, .ref gr, .ref gs, .ref gv, .ref gw, .ref gc, .ref gp, .ref gb])), (gk, .inl (cI, 300, .inl kf)), (gr, .inl (cI, 300, .inl rf)), (gs, .inl (cZ, 300, .inl sf)), (gv, .inl (cJ, 300, .inr (.inl vf))), (gw, .inl (cI, 300, .inl wf)), (gc, .inl (cI, 300, .inl cf)), (gp, .inl (cI, 300, .inl pf)), (gb, .inl (cI, 300, .inl bf))] H := hP
  have hD : va_D A [(g0, .inr (0, [.int (nI r), .int (nI (n + 1)), .ref gk, .ref gr, .ref gs, .ref gv, .ref gw, .ref gc, .ref gp, .ref gb])), (gk, .inl (cI, 300, .inl kf)), (gr, .inl (cI, 300, .inl rf)), (gs, .inl (cZ, 300, .inl sf)), (gv, .inl (cJ, 300, .inr (.inl vf))), (gw, .inl (cI, 300, .inl wf)), (gc, .inl (cI, 300, .inl cf)), (gp, .inl (cI, 300, .inl pf)), (gb, .inl (cI, 300, .inl bf))] := hD
  refine lv_aload_n hx hb dX0_append_30 rfl (lv_at hl 1 rfl) ?_
  refine va_get (D := D) (ci := 0) (v := .ref gk) (C := RX0) (T := TX0) (N := 10) hx hb hts mu_X0 hown hK hP 0 rfl rfl 2 (by decide) (hts _ (List.mem_cons_of_mem _ mw_32)) (fun _ h9 => h9) rfl dX0_append_31 ?_
  refine lv_iload_n hx hb dX0_append_34 rfl (lv_at hl 0 rfl) ?_
  refine lv_iload_n hx hb dX0_append_35 rfl (lv_at hl 2 rfl) ?_
  refine rk_iast hx hb hK hP hD hS 1 0 rfl rfl (i := n) (by omega) (by decide) dX0_append_36 (fun H locs hP hD hS => ?_)
  have hP : va_P D vwCl [(g0, .inr (0, [.int (nI r), .int (nI (n + 1)), .ref gk, .ref gr, .ref gs, .ref gv, .ref gw, .ref gc, .ref gp, .ref gb])), (gk, .inl (cI, 300, .inl (upd kf n key))), (gr, .inl (cI, 300, .inl rf)), (gs, .inl (cZ, 300, .inl sf)), (gv, .inl (cJ, 300, .inr (.inl vf))), (gw, .inl (cI, 300, .inl wf)), (gc, .inl (cI, 300, .inl cf)), (gp, .inl (cI, 300, .inl pf)), (gb, .inl (cI, 300, .inl bf))] H := hP
  have hD : va_D A [(g0, .inr (0, [.int (nI r), .int (nI (n + 1)), .ref gk, .ref gr, .ref gs, .ref gv, .ref gw, .ref gc, .ref gp, .ref gb])), (gk, .inl (cI, 300, .inl (upd kf n key))), (gr, .inl (cI, 300, .inl rf)), (gs, .inl (cZ, 300, .inl sf)), (gv, .inl (cJ, 300, .inr (.inl vf))), (gw, .inl (cI, 300, .inl wf)), (gc, .inl (cI, 300, .inl cf)), (gp, .inl (cI, 300, .inl pf)), (gb, .inl (cI, 300, .inl bf))] := hD
  refine lv_aload_n hx hb dX0_append_37 rfl (lv_at hl 1 rfl) ?_
  refine va_get (D := D) (ci := 0) (v := .ref gr) (C := RX0) (T := TX0) (N := 10) hx hb hts mu_X0 hown hK hP 0 rfl rfl 3 (by decide) (hts _ (List.mem_cons_of_mem _ mw_34)) (fun _ h9 => h9) rfl dX0_append_38 ?_
  refine lv_iload_n hx hb dX0_append_41 rfl (lv_at hl 0 rfl) ?_
  refine lv_aload_n hx hb dX0_append_42 rfl (lv_at hl 1 rfl) ?_
  refine va_get (D := D) (ci := 0) (v := .int (nI r)) (C := RX0) (T := TX0) (N := 10) hx hb hts mu_X0 hown hK hP 0 rfl rfl 0 (by decide) (hts _ (List.mem_cons_of_mem _ mw_27)) (fun _ h9 => h9) rfl dX0_append_43 ?_
  refine rk_iast hx hb hK hP hD hS 2 0 rfl rfl (i := n) (by omega) (by decide) dX0_append_46 (fun H locs hP hD hS => ?_)
  have hP : va_P D vwCl [(g0, .inr (0, [.int (nI r), .int (nI (n + 1)), .ref gk, .ref gr, .ref gs, .ref gv, .ref gw, .ref gc, .ref gp, .ref gb])), (gk, .inl (cI, 300, .inl (upd kf n key))), (gr, .inl (cI, 300, .inl (upd rf n (nI r)))), (gs, .inl (cZ, 300, .inl sf)), (gv, .inl (cJ, 300, .inr (.inl vf))), (gw, .inl (cI, 300, .inl wf)), (gc, .inl (cI, 300, .inl cf)), (gp, .inl (cI, 300, .inl pf)), (gb, .inl (cI, 300, .inl bf))] H := hP
  have hD : va_D A [(g0, .inr (0, [.int (nI r), .int (nI (n + 1)), .ref gk, .ref gr, .ref gs, .ref gv, .ref gw, .ref gc, .ref gp, .ref gb])), (gk, .inl (cI, 300, .inl (upd kf n key))), (gr, .inl (cI, 300, .inl (upd rf n (nI r)))), (gs, .inl (cZ, 300, .inl sf)), (gv, .inl (cJ, 300, .inr (.inl vf))), (gw, .inl (cI, 300, .inl wf)), (gc, .inl (cI, 300, .inl cf)), (gp, .inl (cI, 300, .inl pf)), (gb, .inl (cI, 300, .inl bf))] := hD
  refine lv_aload_n hx hb dX0_append_47 rfl (lv_at hl 1 rfl) ?_
  refine va_get (D := D) (ci := 0) (v := .ref gp) (C := RX0) (T := TX0) (N := 10) hx hb hts mu_X0 hown hK hP 0 rfl rfl 8 (by decide) (hts _ (List.mem_cons_of_mem _ mw_40)) (fun _ h9 => h9) rfl dX0_append_48 ?_
  refine lv_iload_n hx hb dX0_append_51 rfl (lv_at hl 0 rfl) ?_
  refine lv_sipush (v := nI 301) hx hb dX0_append_52 (by decide) ?_
  refine rk_iast hx hb hK hP hD hS 7 0 rfl rfl (i := n) (by omega) (by decide) dX0_append_55 (fun H locs hP hD hS => ?_)
  have hP : va_P D vwCl [(g0, .inr (0, [.int (nI r), .int (nI (n + 1)), .ref gk, .ref gr, .ref gs, .ref gv, .ref gw, .ref gc, .ref gp, .ref gb])), (gk, .inl (cI, 300, .inl (upd kf n key))), (gr, .inl (cI, 300, .inl (upd rf n (nI r)))), (gs, .inl (cZ, 300, .inl sf)), (gv, .inl (cJ, 300, .inr (.inl vf))), (gw, .inl (cI, 300, .inl wf)), (gc, .inl (cI, 300, .inl cf)), (gp, .inl (cI, 300, .inl (upd pf n (nI 301)))), (gb, .inl (cI, 300, .inl bf))] H := hP
  have hD : va_D A [(g0, .inr (0, [.int (nI r), .int (nI (n + 1)), .ref gk, .ref gr, .ref gs, .ref gv, .ref gw, .ref gc, .ref gp, .ref gb])), (gk, .inl (cI, 300, .inl (upd kf n key))), (gr, .inl (cI, 300, .inl (upd rf n (nI r)))), (gs, .inl (cZ, 300, .inl sf)), (gv, .inl (cJ, 300, .inr (.inl vf))), (gw, .inl (cI, 300, .inl wf)), (gc, .inl (cI, 300, .inl cf)), (gp, .inl (cI, 300, .inl (upd pf n (nI 301)))), (gb, .inl (cI, 300, .inl bf))] := hD
  refine lv_aload_n hx hb dX0_append_56 rfl (lv_at hl 1 rfl) ?_
  refine lv_iload_n hx hb dX0_append_57 rfl (lv_at hl 0 rfl) ?_
  refine rw_callVv (wr := []) (As := [.int (nI n)]) (rest := []) ⟨hx, hb, hml, hown, hts⟩ (c_X0_sortIn l D cI cJ cZ H.size g0 gk gr gs gv gw gc gp gb r (n + 1) (upd kf n key) (upd rf n (nI r)) sf vf wf cf (upd pf n (nI 301)) bf bn n (by omega) (fun q hq => ⟨(hbn q hq).1, by have := (hbn q hq).2; omega⟩)) (cwV 1 hts (wB_V mw_229 mw_231 ms_4 mw_2 mw_232) rfl rfl rfl (by decide +kernel) ⟨Nat.le_of_ble_eq_true rfl, Nat.le_of_ble_eq_true rfl⟩) (va_recv hK hP (ci := 0) (q0 := 0) rfl rfl) hK hP hD hS hA [0, 1, 2, 3, 4, 5, 6, 7, 8] [] rfl rfl rfl (by decide) (by decide) (by decide) rfl hl.1 (Nat.le_of_ble_eq_true rfl) ⟨Nat.le_of_ble_eq_true rfl, Nat.le_of_ble_eq_true rfl⟩ rfl dX0_append_58 (fun u_58 H locs hw_58 hP hD hS => ?_)
  try dsimp only at hw_58
  have hP : va_P D vwCl [(g0, .inr (0, [.int (nI r), .int (nI (n + 1)), .ref gk, .ref gr, .ref gs, .ref gv, .ref gw, .ref gc, .ref gp, .ref gb])), (gk, .inl (cI, 300, .inl (upd kf n key))), (gr, .inl (cI, 300, .inl (upd rf n (nI r)))), (gs, .inl (cZ, 300, .inl sf)), (gv, .inl (cJ, 300, .inr (.inl vf))), (gw, .inl (cI, 300, .inl wf)), (gc, .inl (cI, 300, .inl cf)), (gp, .inl (cI, 300, .inl (upd pf n (nI 301)))), (gb, .inl (cI, 300, .inl u_58))] H := hP.sub [0, 1, 2, 3, 4, 5, 6, 7, 8] rfl
  have hD : va_D A [(g0, .inr (0, [.int (nI r), .int (nI (n + 1)), .ref gk, .ref gr, .ref gs, .ref gv, .ref gw, .ref gc, .ref gp, .ref gb])), (gk, .inl (cI, 300, .inl (upd kf n key))), (gr, .inl (cI, 300, .inl (upd rf n (nI r)))), (gs, .inl (cZ, 300, .inl sf)), (gv, .inl (cJ, 300, .inr (.inl vf))), (gw, .inl (cI, 300, .inl wf)), (gc, .inl (cI, 300, .inl cf)), (gp, .inl (cI, 300, .inl (upd pf n (nI 301)))), (gb, .inl (cI, 300, .inl u_58))] := hD.sub [0, 1, 2, 3, 4, 5, 6, 7, 8] (by decide) rfl
  refine lv_iload_n hx hb dX0_append_61 rfl (lv_at hl 0 rfl) ?_
  exact rw_reti (u := u_58) (v := (nI n)) hAe (hP) (hD) hS hK (⟨rfl, hw_58⟩) (Nat.le_of_ble_eq_true rfl) (Nat.le_of_ble_eq_true rfl) hx hb hr hlocks dX0_append_62
set_option maxHeartbeats 4000000 in
set_option maxRecDepth 100000 in
theorem c_X0_append1 (l : Launch) (D : va_G) (cI cJ cZ : ClassId) (sz : Nat) (g0 gk gr gs gv gw gc gp gb r n : Nat) (kf rf sf : Nat → Int32) (vf : Nat → Int64) (wf cf pf bf : Nat → Int32) (bn : Nat → Nat) (hn : n < 300) (hr3 : r ≤ 300) (hbn : ∀ q, q < n → bf q = nI (bn q) ∧ bn q < n) (key : Int32) (b : Nat) (hb3 : b < n) : Met l yX0_append (Cond.code yX0_append cX0_append 4 (some .int) :: wB) ({ frames := 1, cells := 0, slots := 0, locals := 22 } : Room) (rw_Pc D cI cJ cZ sz [.ref g0, .int key, .int (nI b)] [(g0, .inr (0, [.int (nI r), .int (nI n), .ref gk, .ref gr, .ref gs, .ref gv, .ref gw, .ref gc, .ref gp, .ref gb])), (gk, .inl (cI, 300, .inl kf)), (gr, .inl (cI, 300, .inl rf)), (gs, .inl (cZ, 300, .inl sf)), (gv, .inl (cJ, 300, .inr (.inl vf))), (gw, .inl (cI, 300, .inl wf)), (gc, .inl (cI, 300, .inl cf)), (gp, .inl (cI, 300, .inl pf)), (gb, .inl (cI, 300, .inl bf))]) (rw_Qi (S := Nat → Int32) D cI cJ cZ sz [(g0, .inr (0, [.int (nI r), .int (nI n), .ref gk, .ref gr, .ref gs, .ref gv, .ref gw, .ref gc, .ref gp, .ref gb])), (gk, .inl (cI, 300, .inl kf)), (gr, .inl (cI, 300, .inl rf)), (gs, .inl (cZ, 300, .inl sf)), (gv, .inl (cJ, 300, .inr (.inl vf))), (gw, .inl (cI, 300, .inl wf)), (gc, .inl (cI, 300, .inl cf)), (gp, .inl (cI, 300, .inl pf)), (gb, .inl (cI, 300, .inl bf))] (fun b1 => [(g0, .inr (0, [.int (nI r), .int (nI (n + 1)), .ref gk, .ref gr, .ref gs, .ref gv, .ref gw, .ref gc, .ref gp, .ref gb])), (gk, .inl (cI, 300, .inl (upd kf n key))), (gr, .inl (cI, 300, .inl (upd rf n (nI r)))), (gs, .inl (cZ, 300, .inl sf)), (gv, .inl (cJ, 300, .inr (.inl vf))), (gw, .inl (cI, 300, .inl wf)), (gc, .inl (cI, 300, .inl cf)), (gp, .inl (cI, 300, .inl (upd (upd pf b (nI r)) n (nI 301)))), (gb, .inl (cI, 300, .inl b1))]) (fun x b1 => x = nI n ∧ srt (upd kf n key) bn b1 n)) 0 0 (va_A [(g0, .inr (0, [.int (nI r), .int (nI n), .ref gk, .ref gr, .ref gs, .ref gv, .ref gw, .ref gc, .ref gp, .ref gb])), (gk, .inl (cI, 300, .inl kf)), (gr, .inl (cI, 300, .inl rf)), (gs, .inl (cZ, 300, .inl sf)), (gv, .inl (cJ, 300, .inr (.inl vf))), (gw, .inl (cI, 300, .inl wf)), (gc, .inl (cI, 300, .inl cf)), (gp, .inl (cI, 300, .inl pf)), (gb, .inl (cI, 300, .inl bf))] sz) := by
  refine Met.ofW (cc := cX0_append) (maxL := 4) (ret := (some .int)) (by decide) rfl ?_
  intro p e s m args below meth c s₁ B hml hv
  obtain ⟨rfl, hsz, hP, hK, hD0⟩ := hv
  have hx := B.exec
  have hb := B.bytes
  have hr := B.returns
  have hts := atoms_spec (ws := (Cond.code yX0_append cX0_append 4 (some .int) :: wB)) B.pre
  have hown : s.vm.findClass RX0 = some m.cls := findClass_of_methodNamed B.named
  have hlocks := B.notSynchronized
  subst hsz
  have hD := hD0.self (sz := s.heap.size)
  obtain ⟨A, hAe⟩ : ∃ A, A = va_A [(g0, .inr (0, [.int (nI r), .int (nI n), .ref gk, .ref gr, .ref gs, .ref gv, .ref gw, .ref gc, .ref gp, .ref gb])), (gk, .inl (cI, 300, .inl kf)), (gr, .inl (cI, 300, .inl rf)), (gs, .inl (cZ, 300, .inl sf)), (gv, .inl (cJ, 300, .inr (.inl vf))), (gw, .inl (cI, 300, .inl wf)), (gc, .inl (cI, 300, .inl cf)), (gp, .inl (cI, 300, .inl pf)), (gb, .inl (cI, 300, .inl bf))] s.heap.size := ⟨_, rfl⟩
  rw [← hAe] at hD
  have hA : ∀ q : Nat, s.heap.size ≤ q → A q := fun q h => by rw [hAe]; exact Or.inr h
  have hS : va_S A s.heap s.heap [] := va_S.rf
  have hl := lv_entry ([.ref g0, .int key, .int (nI b)]) (n := 4) (Nat.le_of_ble_eq_true rfl)
  rw [lg_entry_eq]
  generalize (lg_sl ([.ref g0, .int key, .int (nI b)]) ++ List.replicate (4 - (lg_sl ([.ref g0, .int key, .int (nI b)])).length) Slot.unset).toArray = ls at hl ⊢
  have hl : lv_has ls 4 [(0, .ref g0), (1, .int key), (2, .int (nI b))] := hl
  refine lv_iload_n hx hb dX0_append_0 rfl (lv_at hl 2 rfl) ?_
  refine lv_iconst (v := -1) hx hb dX0_append_1 (by decide) ?_
  refine lv_icmp_eq (tgt := 15) hx hb dX0_append_2 (by decide) (fun c => absurd c (zn_nm1 (n := b) (by omega))) (fun _ => ?_)
  refine lv_aload_n hx hb dX0_append_5 rfl (lv_at hl 0 rfl) ?_
  refine va_get (D := D) (ci := 0) (v := .ref gp) (C := RX0) (T := TX0) (N := 10) hx hb hts mu_X0 hown hK hP 0 rfl rfl 8 (by decide) (hts _ (List.mem_cons_of_mem _ mw_40)) (fun _ h9 => h9) rfl dX0_append_6 ?_
  refine lv_iload_n hx hb dX0_append_9 rfl (lv_at hl 2 rfl) ?_
  refine lv_aload_n hx hb dX0_append_10 rfl (lv_at hl 0 rfl) ?_
  refine va_get (D := D) (ci := 0) (v := .int (nI r)) (C := RX0) (T := TX0) (N := 10) hx hb hts mu_X0 hown hK hP 0 rfl rfl 0 (by decide) (hts _ (List.mem_cons_of_mem _ mw_27)) (fun _ h9 => h9) rfl dX0_append_11 ?_
  refine rk_iast hx hb hK hP hD hS 7 0 rfl rfl (i := b) (by omega) (by decide) dX0_append_14 (fun H locs hP hD hS => ?_)
  have hP : va_P D vwCl [(g0, .inr (0, [.int (nI r), .int (nI n), .ref gk, .ref gr, .ref gs, .ref gv, .ref gw, .ref gc, .ref gp, .ref gb])), (gk, .inl (cI, 300, .inl kf)), (gr, .inl (cI, 300, .inl rf)), (gs, .inl (cZ, 300, .inl sf)), (gv, .inl (cJ, 300, .inr (.inl vf))), (gw, .inl (cI, 300, .inl wf)), (gc, .inl (cI, 300, .inl cf)), (gp, .inl (cI, 300, .inl (upd pf b (nI r)))), (gb, .inl (cI, 300, .inl bf))] H := hP
  have hD : va_D A [(g0, .inr (0, [.int (nI r), .int (nI n), .ref gk, .ref gr, .ref gs, .ref gv, .ref gw, .ref gc, .ref gp, .ref gb])), (gk, .inl (cI, 300, .inl kf)), (gr, .inl (cI, 300, .inl rf)), (gs, .inl (cZ, 300, .inl sf)), (gv, .inl (cJ, 300, .inr (.inl vf))), (gw, .inl (cI, 300, .inl wf)), (gc, .inl (cI, 300, .inl cf)), (gp, .inl (cI, 300, .inl (upd pf b (nI r)))), (gb, .inl (cI, 300, .inl bf))] := hD
  refine lv_aload_n hx hb dX0_append_15 rfl (lv_at hl 0 rfl) ?_
  refine va_get (D := D) (ci := 0) (v := .int (nI n)) (C := RX0) (T := TX0) (N := 10) hx hb hts mu_X0 hown hK hP 0 rfl rfl 1 (by decide) (hts _ (List.mem_cons_of_mem _ mw_30)) (fun _ h9 => h9) rfl dX0_append_16 ?_
  refine lv_istore_n (lv' := [(3, .int (nI n)), (0, .ref g0), (1, .int key), (2, .int (nI b))]) hx hb dX0_append_19 rfl hl (by decide) rfl (fun ls hl => ?_)
  refine lv_aload_n hx hb dX0_append_20 rfl (lv_at hl 1 rfl) ?_
  refine lv_dup hx hb dX0_append_21 rfl ?_
  refine va_get (D := D) (ci := 0) (v := .int (nI n)) (C := RX0) (T := TX0) (N := 10) hx hb hts mu_X0 hown hK hP 0 rfl rfl 1 (by decide) (hts _ (List.mem_cons_of_mem _ mw_30)) (fun _ h9 => h9) rfl dX0_append_22 ?_
  refine lv_iconst (v := nI 1) hx hb dX0_append_25 (by decide) ?_
  refine rk_iadd hx hb dX0_append_26 ?_
  refine va_put (D := D) (ci := 0) (v := .int (nI (n + 1))) (ty := .int) (C := RX0) (T := TX0) (N := 10) hx hb hts mu_X0 tyX0 tyX0_ok nmX0 hown hK hP hD hS 0 rfl rfl 1 (by decide) (hts _ (List.mem_cons_of_mem _ mw_30)) (fun _ h9 => h9) rfl (by decide +kernel) rfl rfl (Nat.le_of_ble_eq_true rfl) dX0_append_27 (fun H locs hP hD hS => ?_)
  have hP : va_P D vwCl [(g0, .inr (0, [.int (nI r), .int (nI (n + 1)), .ref gk, .ref gr, .ref gs, .ref gv, .ref gw, .ref gc, .ref gp, .ref gb])), (gk, .inl (cI, 300, .inl kf)), (gr, .inl (cI, 300, .inl rf)), (gs, .inl (cZ, 300, .inl sf)), (gv, .inl (cJ, 300, .inr (.inl vf))), (gw, .inl (cI, 300, .inl wf)), (gc, .inl (cI, 300, .inl cf)), (gp, .inl (cI, 300, .inl (upd pf b (nI r)))), (gb, .inl (cI, 300, .inl bf))] H := hP
  have hD : va_D A [(g0, .inr (0, [.int (nI r), .int (nI (n + 1)), .ref gk, .ref gr, .ref gs, .ref gv, .ref gw, .ref gc, .ref gp, .ref gb])), (gk, .inl (cI, 300, .inl kf)), (gr, .inl (cI, 300, .inl rf)), (gs, .inl (cZ, 300, .inl sf)), (gv, .inl (cJ, 300, .inr (.inl vf))), (gw, .inl (cI, 300, .inl wf)), (gc, .inl (cI, 300, .inl cf)), (gp, .inl (cI, 300, .inl (upd pf b (nI r)))), (gb, .inl (cI, 300, .inl bf))] := hD
  refine lv_aload_n hx hb dX0_append_30 rfl (lv_at hl 1 rfl) ?_
  refine va_get (D := D) (ci := 0) (v := .ref gk) (C := RX0) (T := TX0) (N := 10) hx hb hts mu_X0 hown hK hP 0 rfl rfl 2 (by decide) (hts _ (List.mem_cons_of_mem _ mw_32)) (fun _ h9 => h9) rfl dX0_append_31 ?_
  refine lv_iload_n hx hb dX0_append_34 rfl (lv_at hl 0 rfl) ?_
  refine lv_iload_n hx hb dX0_append_35 rfl (lv_at hl 2 rfl) ?_
  refine rk_iast hx hb hK hP hD hS 1 0 rfl rfl (i := n) (by omega) (by decide) dX0_append_36 (fun H locs hP hD hS => ?_)
  have hP : va_P D vwCl [(g0, .inr (0, [.int (nI r), .int (nI (n + 1)), .ref gk, .ref gr, .ref gs, .ref gv, .ref gw, .ref gc, .ref gp, .ref gb])), (gk, .inl (cI, 300, .inl (upd kf n key))), (gr, .inl (cI, 300, .inl rf)), (gs, .inl (cZ, 300, .inl sf)), (gv, .inl (cJ, 300, .inr (.inl vf))), (gw, .inl (cI, 300, .inl wf)), (gc, .inl (cI, 300, .inl cf)), (gp, .inl (cI, 300, .inl (upd pf b (nI r)))), (gb, .inl (cI, 300, .inl bf))] H := hP
  have hD : va_D A [(g0, .inr (0, [.int (nI r), .int (nI (n + 1)), .ref gk, .ref gr, .ref gs, .ref gv, .ref gw, .ref gc, .ref gp, .ref gb])), (gk, .inl (cI, 300, .inl (upd kf n key))), (gr, .inl (cI, 300, .inl rf)), (gs, .inl (cZ, 300, .inl sf)), (gv, .inl (cJ, 300, .inr (.inl vf))), (gw, .inl (cI, 300, .inl wf)), (gc, .inl (cI, 300, .inl cf)), (gp, .inl (cI, 300, .inl (upd pf b (nI r)))), (gb, .inl (cI, 300, .inl bf))] := hD
  refine lv_aload_n hx hb dX0_append_37 rfl (lv_at hl 1 rfl) ?_
  refine va_get (D := D) (ci := 0) (v := .ref gr) (C := RX0) (T := TX0) (N := 10) hx hb hts mu_X0 hown hK hP 0 rfl rfl 3 (by decide) (hts _ (List.mem_cons_of_mem _ mw_34)) (fun _ h9 => h9) rfl dX0_append_38 ?_
  refine lv_iload_n hx hb dX0_append_41 rfl (lv_at hl 0 rfl) ?_
  refine lv_aload_n hx hb dX0_append_42 rfl (lv_at hl 1 rfl) ?_
  refine va_get (D := D) (ci := 0) (v := .int (nI r)) (C := RX0) (T := TX0) (N := 10) hx hb hts mu_X0 hown hK hP 0 rfl rfl 0 (by decide) (hts _ (List.mem_cons_of_mem _ mw_27)) (fun _ h9 => h9) rfl dX0_append_43 ?_
  refine rk_iast hx hb hK hP hD hS 2 0 rfl rfl (i := n) (by omega) (by decide) dX0_append_46 (fun H locs hP hD hS => ?_)
  have hP : va_P D vwCl [(g0, .inr (0, [.int (nI r), .int (nI (n + 1)), .ref gk, .ref gr, .ref gs, .ref gv, .ref gw, .ref gc, .ref gp, .ref gb])), (gk, .inl (cI, 300, .inl (upd kf n key))), (gr, .inl (cI, 300, .inl (upd rf n (nI r)))), (gs, .inl (cZ, 300, .inl sf)), (gv, .inl (cJ, 300, .inr (.inl vf))), (gw, .inl (cI, 300, .inl wf)), (gc, .inl (cI, 300, .inl cf)), (gp, .inl (cI, 300, .inl (upd pf b (nI r)))), (gb, .inl (cI, 300, .inl bf))] H := hP
  have hD : va_D A [(g0, .inr (0, [.int (nI r), .int (nI (n + 1)), .ref gk, .ref gr, .ref gs, .ref gv, .ref gw, .ref gc, .ref gp, .ref gb])), (gk, .inl (cI, 300, .inl (upd kf n key))), (gr, .inl (cI, 300, .inl (upd rf n (nI r)))), (gs, .inl (cZ, 300, .inl sf)), (gv, .inl (cJ, 300, .inr (.inl vf))), (gw, .inl (cI, 300, .inl wf)), (gc, .inl (cI, 300, .inl cf)), (gp, .inl (cI, 300, .inl (upd pf b (nI r)))), (gb, .inl (cI, 300, .inl bf))] := hD
  refine lv_aload_n hx hb dX0_append_47 rfl (lv_at hl 1 rfl) ?_
  refine va_get (D := D) (ci := 0) (v := .ref gp) (C := RX0) (T := TX0) (N := 10) hx hb hts mu_X0 hown hK hP 0 rfl rfl 8 (by decide) (hts _ (List.mem_cons_of_mem _ mw_40)) (fun _ h9 => h9) rfl dX0_append_48 ?_
  refine lv_iload_n hx hb dX0_append_51 rfl (lv_at hl 0 rfl) ?_
  refine lv_sipush (v := nI 301) hx hb dX0_append_52 (by decide) ?_
  refine rk_iast hx hb hK hP hD hS 7 0 rfl rfl (i := n) (by omega) (by decide) dX0_append_55 (fun H locs hP hD hS => ?_)
  have hP : va_P D vwCl [(g0, .inr (0, [.int (nI r), .int (nI (n + 1)), .ref gk, .ref gr, .ref gs, .ref gv, .ref gw, .ref gc, .ref gp, .ref gb])), (gk, .inl (cI, 300, .inl (upd kf n key))), (gr, .inl (cI, 300, .inl (upd rf n (nI r)))), (gs, .inl (cZ, 300, .inl sf)), (gv, .inl (cJ, 300, .inr (.inl vf))), (gw, .inl (cI, 300, .inl wf)), (gc, .inl (cI, 300, .inl cf)), (gp, .inl (cI, 300, .inl (upd (upd pf b (nI r)) n (nI 301)))), (gb, .inl (cI, 300, .inl bf))] H := hP
  have hD : va_D A [(g0, .inr (0, [.int (nI r), .int (nI (n + 1)), .ref gk, .ref gr, .ref gs, .ref gv, .ref gw, .ref gc, .ref gp, .ref gb])), (gk, .inl (cI, 300, .inl (upd kf n key))), (gr, .inl (cI, 300, .inl (upd rf n (nI r)))), (gs, .inl (cZ, 300, .inl sf)), (gv, .inl (cJ, 300, .inr (.inl vf))), (gw, .inl (cI, 300, .inl wf)), (gc, .inl (cI, 300, .inl cf)), (gp, .inl (cI, 300, .inl (upd (upd pf b (nI r)) n (nI 301)))), (gb, .inl (cI, 300, .inl bf))] := hD
  refine lv_aload_n hx hb dX0_append_56 rfl (lv_at hl 1 rfl) ?_
  refine lv_iload_n hx hb dX0_append_57 rfl (lv_at hl 0 rfl) ?_
  refine rw_callVv (wr := []) (As := [.int (nI n)]) (rest := []) ⟨hx, hb, hml, hown, hts⟩ (c_X0_sortIn l D cI cJ cZ H.size g0 gk gr gs gv gw gc gp gb r (n + 1) (upd kf n key) (upd rf n (nI r)) sf vf wf cf (upd (upd pf b (nI r)) n (nI 301)) bf bn n (by omega) (fun q hq => ⟨(hbn q hq).1, by have := (hbn q hq).2; omega⟩)) (cwV 1 hts (wB_V mw_229 mw_231 ms_4 mw_2 mw_232) rfl rfl rfl (by decide +kernel) ⟨Nat.le_of_ble_eq_true rfl, Nat.le_of_ble_eq_true rfl⟩) (va_recv hK hP (ci := 0) (q0 := 0) rfl rfl) hK hP hD hS hA [0, 1, 2, 3, 4, 5, 6, 7, 8] [] rfl rfl rfl (by decide) (by decide) (by decide) rfl hl.1 (Nat.le_of_ble_eq_true rfl) ⟨Nat.le_of_ble_eq_true rfl, Nat.le_of_ble_eq_true rfl⟩ rfl dX0_append_58 (fun u_58 H locs hw_58 hP hD hS => ?_)
  try dsimp only at hw_58
  have hP : va_P D vwCl [(g0, .inr (0, [.int (nI r), .int (nI (n + 1)), .ref gk, .ref gr, .ref gs, .ref gv, .ref gw, .ref gc, .ref gp, .ref gb])), (gk, .inl (cI, 300, .inl (upd kf n key))), (gr, .inl (cI, 300, .inl (upd rf n (nI r)))), (gs, .inl (cZ, 300, .inl sf)), (gv, .inl (cJ, 300, .inr (.inl vf))), (gw, .inl (cI, 300, .inl wf)), (gc, .inl (cI, 300, .inl cf)), (gp, .inl (cI, 300, .inl (upd (upd pf b (nI r)) n (nI 301)))), (gb, .inl (cI, 300, .inl u_58))] H := hP.sub [0, 1, 2, 3, 4, 5, 6, 7, 8] rfl
  have hD : va_D A [(g0, .inr (0, [.int (nI r), .int (nI (n + 1)), .ref gk, .ref gr, .ref gs, .ref gv, .ref gw, .ref gc, .ref gp, .ref gb])), (gk, .inl (cI, 300, .inl (upd kf n key))), (gr, .inl (cI, 300, .inl (upd rf n (nI r)))), (gs, .inl (cZ, 300, .inl sf)), (gv, .inl (cJ, 300, .inr (.inl vf))), (gw, .inl (cI, 300, .inl wf)), (gc, .inl (cI, 300, .inl cf)), (gp, .inl (cI, 300, .inl (upd (upd pf b (nI r)) n (nI 301)))), (gb, .inl (cI, 300, .inl u_58))] := hD.sub [0, 1, 2, 3, 4, 5, 6, 7, 8] (by decide) rfl
  refine lv_iload_n hx hb dX0_append_61 rfl (lv_at hl 0 rfl) ?_
  exact rw_reti (u := u_58) (v := (nI n)) hAe (hP) (hD) hS hK (⟨rfl, hw_58⟩) (Nat.le_of_ble_eq_true rfl) (Nat.le_of_ble_eq_true rfl) hx hb hr hlocks dX0_append_62
set_option maxHeartbeats 4000000 in
set_option maxRecDepth 100000 in
theorem c_X0_appendSet (l : Launch) (D : va_G) (cI cJ cZ : ClassId) (sz : Nat) (g0 gk gr gs gv gw gc gp gb r n : Nat) (kf rf sf : Nat → Int32) (vf : Nat → Int64) (wf cf pf bf : Nat → Int32) (bn : Nat → Nat) (hn : n < 300) (hr3 : r ≤ 300) (hbn : ∀ q, q < n → bf q = nI (bn q) ∧ bn q < n) (key : Int32) (v : Int64) : Met l yX0_appendSet (Cond.code yX0_appendSet cX0_appendSet 6 none :: wB) ({ frames := 2, cells := 0, slots := 0, locals := 45 } : Room) (rw_Pc D cI cJ cZ sz [.ref g0, .int key, .long v] [(g0, .inr (0, [.int (nI r), .int (nI n), .ref gk, .ref gr, .ref gs, .ref gv, .ref gw, .ref gc, .ref gp, .ref gb])), (gk, .inl (cI, 300, .inl kf)), (gr, .inl (cI, 300, .inl rf)), (gs, .inl (cZ, 300, .inl sf)), (gv, .inl (cJ, 300, .inr (.inl vf))), (gw, .inl (cI, 300, .inl wf)), (gc, .inl (cI, 300, .inl cf)), (gp, .inl (cI, 300, .inl pf)), (gb, .inl (cI, 300, .inl bf))]) (rw_Qv (S := (Nat → Int32) × (Nat → Int32) × (Nat → Int32) × (Nat → Int32)) D cI cJ cZ sz [(g0, .inr (0, [.int (nI r), .int (nI n), .ref gk, .ref gr, .ref gs, .ref gv, .ref gw, .ref gc, .ref gp, .ref gb])), (gk, .inl (cI, 300, .inl kf)), (gr, .inl (cI, 300, .inl rf)), (gs, .inl (cZ, 300, .inl sf)), (gv, .inl (cJ, 300, .inr (.inl vf))), (gw, .inl (cI, 300, .inl wf)), (gc, .inl (cI, 300, .inl cf)), (gp, .inl (cI, 300, .inl pf)), (gb, .inl (cI, 300, .inl bf))] (fun u => [(g0, .inr (0, [.int (nI r), .int (nI (n + 1)), .ref gk, .ref gr, .ref gs, .ref gv, .ref gw, .ref gc, .ref gp, .ref gb])), (gk, .inl (cI, 300, .inl (upd kf n key))), (gr, .inl (cI, 300, .inl (upd rf n (nI r)))), (gs, .inl (cZ, 300, .inl (upd sf n (nI 1)))), (gv, .inl (cJ, 300, .inr (.inl (vp_updL vf n v)))), (gw, .inl (cI, 300, .inl u.2.2.1)), (gc, .inl (cI, 300, .inl u.2.2.2)), (gp, .inl (cI, 300, .inl u.1)), (gb, .inl (cI, 300, .inl u.2.1))]) (fun u => srt (upd kf n key) bn u.2.1 n ∧ (((∀ j, j < n → ¬ (kf j = key ∧ hld sf rf pf j (nI r))) ∧ u.1 = upd pf n (nI 301) ∧ u.2.2.1 = upd wf n (nI 1) ∧ u.2.2.2 = upd cf n (nI r)) ∨ (∃ j, j < n ∧ (kf j = key ∧ hld sf rf pf j (nI r)) ∧ u.1 = upd (upd pf j (nI r)) n (nI 301) ∧ u.2.2.1 = upd wf n (wf j + nI 1) ∧ u.2.2.2 = upd cf n (cf j))))) 0 0 (va_A [(g0, .inr (0, [.int (nI r), .int (nI n), .ref gk, .ref gr, .ref gs, .ref gv, .ref gw, .ref gc, .ref gp, .ref gb])), (gk, .inl (cI, 300, .inl kf)), (gr, .inl (cI, 300, .inl rf)), (gs, .inl (cZ, 300, .inl sf)), (gv, .inl (cJ, 300, .inr (.inl vf))), (gw, .inl (cI, 300, .inl wf)), (gc, .inl (cI, 300, .inl cf)), (gp, .inl (cI, 300, .inl pf)), (gb, .inl (cI, 300, .inl bf))] sz) := by
  refine Met.ofW (cc := cX0_appendSet) (maxL := 6) (ret := none) (by decide) rfl ?_
  intro p e s m args below meth c s₁ B hml hv
  obtain ⟨rfl, hsz, hP, hK, hD0⟩ := hv
  have hx := B.exec
  have hb := B.bytes
  have hr := B.returns
  have hts := atoms_spec (ws := (Cond.code yX0_appendSet cX0_appendSet 6 none :: wB)) B.pre
  have hown : s.vm.findClass RX0 = some m.cls := findClass_of_methodNamed B.named
  have hlocks := B.notSynchronized
  subst hsz
  have hD := hD0.self (sz := s.heap.size)
  obtain ⟨A, hAe⟩ : ∃ A, A = va_A [(g0, .inr (0, [.int (nI r), .int (nI n), .ref gk, .ref gr, .ref gs, .ref gv, .ref gw, .ref gc, .ref gp, .ref gb])), (gk, .inl (cI, 300, .inl kf)), (gr, .inl (cI, 300, .inl rf)), (gs, .inl (cZ, 300, .inl sf)), (gv, .inl (cJ, 300, .inr (.inl vf))), (gw, .inl (cI, 300, .inl wf)), (gc, .inl (cI, 300, .inl cf)), (gp, .inl (cI, 300, .inl pf)), (gb, .inl (cI, 300, .inl bf))] s.heap.size := ⟨_, rfl⟩
  rw [← hAe] at hD
  have hA : ∀ q : Nat, s.heap.size ≤ q → A q := fun q h => by rw [hAe]; exact Or.inr h
  have hS : va_S A s.heap s.heap [] := va_S.rf
  have hl := lv_entry ([.ref g0, .int key, .long v]) (n := 6) (Nat.le_of_ble_eq_true rfl)
  rw [lg_entry_eq]
  generalize (lg_sl ([.ref g0, .int key, .long v]) ++ List.replicate (6 - (lg_sl ([.ref g0, .int key, .long v])).length) Slot.unset).toArray = ls at hl ⊢
  have hl : lv_has ls 6 [(0, .ref g0), (1, .int key), (2, .long v)] := hl
  refine lv_aload_n hx hb dX0_appendSet_0 rfl (lv_at hl 0 rfl) ?_
  refine lv_iload_n hx hb dX0_appendSet_1 rfl (lv_at hl 1 rfl) ?_
  refine lv_aload_n hx hb dX0_appendSet_2 rfl (lv_at hl 0 rfl) ?_
  refine va_get (D := D) (ci := 0) (v := .int (nI r)) (C := RX0) (T := TX0) (N := 10) hx hb hts mu_X0 hown hK hP 0 rfl rfl 0 (by decide) (hts _ (List.mem_cons_of_mem _ mw_27)) (fun _ h9 => h9) rfl dX0_appendSet_3 ?_
  refine ro_callVi (As := [.int key, .int (nI r)]) (rest := []) ⟨hx, hb, hml, hown, hts⟩ (c_X0_find l D cI cJ cZ g0 gk gr gs gv gw gc gp gb r n kf rf sf vf wf cf pf bf (by omega) key (nI r)) (cwV 2 hts (wB_V mw_221 mw_222 mw_223 mw_2 mw_224) rfl rfl rfl (by decide +kernel) ⟨Nat.le_of_ble_eq_true rfl, Nat.le_of_ble_eq_true rfl⟩) (va_recv hK hP (ci := 0) (q0 := 0) rfl rfl) (hP.sub (ws' := [(g0, .inr (0, [.int (nI r), .int (nI n), .ref gk, .ref gr, .ref gs, .ref gv, .ref gw, .ref gc, .ref gp, .ref gb])), (gk, .inl (cI, 300, .inl kf)), (gr, .inl (cI, 300, .inl rf)), (gs, .inl (cZ, 300, .inl sf)), (gv, .inl (cJ, 300, .inr (.inl vf))), (gw, .inl (cI, 300, .inl wf)), (gc, .inl (cI, 300, .inl cf)), (gp, .inl (cI, 300, .inl pf)), (gb, .inl (cI, 300, .inl bf))]) [0, 1, 2, 3, 4, 5, 6, 7, 8] rfl) hK rfl hl.1 (Nat.le_of_ble_eq_true rfl) ⟨Nat.le_of_ble_eq_true rfl, Nat.le_of_ble_eq_true rfl⟩ rfl dX0_appendSet_6 (fun r_6 hw_6 => ?_)
  try dsimp only at hw_6
  rcases hw_6 with ⟨rfl, hw_6⟩ | ⟨j, hj, rfl, hw_6, hq⟩
  · skip
    refine lv_istore (lv' := [(4, .int (-1)), (0, .ref g0), (1, .int key), (2, .long v)]) hx hb dX0_appendSet_9 hl (by decide) rfl (fun ls hl => ?_)
    refine lv_aload_n hx hb dX0_appendSet_11 rfl (lv_at hl 1 rfl) ?_
    refine lv_iload_n hx hb dX0_appendSet_12 rfl (lv_at hl 2 rfl) ?_
    refine lv_iload hx hb dX0_appendSet_13 (lv_at hl 0 rfl) ?_
    refine rw_callVi (wr := []) (As := [.int key, .int (-1)]) (rest := []) ⟨hx, hb, hml, hown, hts⟩ (c_X0_append0 l D cI cJ cZ s.heap.size g0 gk gr gs gv gw gc gp gb r n kf rf sf vf wf cf pf bf bn (by omega) (by omega) (hbn) key) (cwV 2 hts (wB_V mw_225 mw_227 ms_3 mw_2 mw_228) rfl rfl rfl (by decide +kernel) ⟨Nat.le_of_ble_eq_true rfl, Nat.le_of_ble_eq_true rfl⟩) (va_recv hK hP (ci := 0) (q0 := 0) rfl rfl) hK hP hD hS hA [0, 1, 2, 3, 4, 5, 6, 7, 8] [] rfl rfl rfl (by decide) (by decide) (by decide) rfl hl.1 (Nat.le_of_ble_eq_true rfl) ⟨Nat.le_of_ble_eq_true rfl, Nat.le_of_ble_eq_true rfl⟩ rfl dX0_appendSet_15 (fun r_15 u_15 H locs hw_15 hP hD hS => ?_)
    try dsimp only at hw_15
    have hP : va_P D vwCl [(g0, .inr (0, [.int (nI r), .int (nI (n + 1)), .ref gk, .ref gr, .ref gs, .ref gv, .ref gw, .ref gc, .ref gp, .ref gb])), (gk, .inl (cI, 300, .inl (upd kf n key))), (gr, .inl (cI, 300, .inl (upd rf n (nI r)))), (gs, .inl (cZ, 300, .inl sf)), (gv, .inl (cJ, 300, .inr (.inl vf))), (gw, .inl (cI, 300, .inl wf)), (gc, .inl (cI, 300, .inl cf)), (gp, .inl (cI, 300, .inl (upd pf n (nI 301)))), (gb, .inl (cI, 300, .inl u_15))] H := hP.sub [0, 1, 2, 3, 4, 5, 6, 7, 8] rfl
    have hD : va_D A [(g0, .inr (0, [.int (nI r), .int (nI (n + 1)), .ref gk, .ref gr, .ref gs, .ref gv, .ref gw, .ref gc, .ref gp, .ref gb])), (gk, .inl (cI, 300, .inl (upd kf n key))), (gr, .inl (cI, 300, .inl (upd rf n (nI r)))), (gs, .inl (cZ, 300, .inl sf)), (gv, .inl (cJ, 300, .inr (.inl vf))), (gw, .inl (cI, 300, .inl wf)), (gc, .inl (cI, 300, .inl cf)), (gp, .inl (cI, 300, .inl (upd pf n (nI 301)))), (gb, .inl (cI, 300, .inl u_15))] := hD.sub [0, 1, 2, 3, 4, 5, 6, 7, 8] (by decide) rfl
    obtain ⟨rfl, hw_15⟩ := hw_15
    refine lv_istore (lv' := [(5, .int (nI n)), (4, .int (-1)), (0, .ref g0), (1, .int key), (2, .long v)]) hx hb dX0_appendSet_18 hl (by decide) rfl (fun ls hl => ?_)
    refine lv_aload_n hx hb dX0_appendSet_20 rfl (lv_at hl 2 rfl) ?_
    refine va_get (D := D) (ci := 0) (v := .ref gs) (C := RX0) (T := TX0) (N := 10) hx hb hts mu_X0 hown hK hP 0 rfl rfl 4 (by decide) (hts _ (List.mem_cons_of_mem _ mw_35)) (fun _ h9 => h9) rfl dX0_appendSet_21 ?_
    refine lv_iload hx hb dX0_appendSet_24 (lv_at hl 0 rfl) ?_
    refine lv_iconst (v := nI 1) hx hb dX0_appendSet_26 (by decide) ?_
    refine rk_zast hx hb hK hP hD hS 3 2 rfl rfl (i := n) (by decide) (by omega) (by decide) dX0_appendSet_27 (fun H locs hP hD hS => ?_)
    have hP : va_P D vwCl [(g0, .inr (0, [.int (nI r), .int (nI (n + 1)), .ref gk, .ref gr, .ref gs, .ref gv, .ref gw, .ref gc, .ref gp, .ref gb])), (gk, .inl (cI, 300, .inl (upd kf n key))), (gr, .inl (cI, 300, .inl (upd rf n (nI r)))), (gs, .inl (cZ, 300, .inl (upd sf n (nI 1)))), (gv, .inl (cJ, 300, .inr (.inl vf))), (gw, .inl (cI, 300, .inl wf)), (gc, .inl (cI, 300, .inl cf)), (gp, .inl (cI, 300, .inl (upd pf n (nI 301)))), (gb, .inl (cI, 300, .inl u_15))] H := hP
    have hD : va_D A [(g0, .inr (0, [.int (nI r), .int (nI (n + 1)), .ref gk, .ref gr, .ref gs, .ref gv, .ref gw, .ref gc, .ref gp, .ref gb])), (gk, .inl (cI, 300, .inl (upd kf n key))), (gr, .inl (cI, 300, .inl (upd rf n (nI r)))), (gs, .inl (cZ, 300, .inl (upd sf n (nI 1)))), (gv, .inl (cJ, 300, .inr (.inl vf))), (gw, .inl (cI, 300, .inl wf)), (gc, .inl (cI, 300, .inl cf)), (gp, .inl (cI, 300, .inl (upd pf n (nI 301)))), (gb, .inl (cI, 300, .inl u_15))] := hD
    refine lv_aload_n hx hb dX0_appendSet_28 rfl (lv_at hl 2 rfl) ?_
    refine va_get (D := D) (ci := 0) (v := .ref gv) (C := RX0) (T := TX0) (N := 10) hx hb hts mu_X0 hown hK hP 0 rfl rfl 5 (by decide) (hts _ (List.mem_cons_of_mem _ mw_36)) (fun _ h9 => h9) rfl dX0_appendSet_29 ?_
    refine lv_iload hx hb dX0_appendSet_32 (lv_at hl 0 rfl) ?_
    refine lv_lload_n hx hb dX0_appendSet_34 rfl (lv_at hl 4 rfl) ?_
    refine rk_last hx hb hK hP hD hS 4 1 rfl rfl (i := n) (by omega) (by decide) dX0_appendSet_35 (fun H locs hP hD hS => ?_)
    have hP : va_P D vwCl [(g0, .inr (0, [.int (nI r), .int (nI (n + 1)), .ref gk, .ref gr, .ref gs, .ref gv, .ref gw, .ref gc, .ref gp, .ref gb])), (gk, .inl (cI, 300, .inl (upd kf n key))), (gr, .inl (cI, 300, .inl (upd rf n (nI r)))), (gs, .inl (cZ, 300, .inl (upd sf n (nI 1)))), (gv, .inl (cJ, 300, .inr (.inl (vp_updL vf n v)))), (gw, .inl (cI, 300, .inl wf)), (gc, .inl (cI, 300, .inl cf)), (gp, .inl (cI, 300, .inl (upd pf n (nI 301)))), (gb, .inl (cI, 300, .inl u_15))] H := hP
    have hD : va_D A [(g0, .inr (0, [.int (nI r), .int (nI (n + 1)), .ref gk, .ref gr, .ref gs, .ref gv, .ref gw, .ref gc, .ref gp, .ref gb])), (gk, .inl (cI, 300, .inl (upd kf n key))), (gr, .inl (cI, 300, .inl (upd rf n (nI r)))), (gs, .inl (cZ, 300, .inl (upd sf n (nI 1)))), (gv, .inl (cJ, 300, .inr (.inl (vp_updL vf n v)))), (gw, .inl (cI, 300, .inl wf)), (gc, .inl (cI, 300, .inl cf)), (gp, .inl (cI, 300, .inl (upd pf n (nI 301)))), (gb, .inl (cI, 300, .inl u_15))] := hD
    refine lv_aload_n hx hb dX0_appendSet_36 rfl (lv_at hl 2 rfl) ?_
    refine va_get (D := D) (ci := 0) (v := .ref gw) (C := RX0) (T := TX0) (N := 10) hx hb hts mu_X0 hown hK hP 0 rfl rfl 6 (by decide) (hts _ (List.mem_cons_of_mem _ mw_38)) (fun _ h9 => h9) rfl dX0_appendSet_37 ?_
    refine lv_iload hx hb dX0_appendSet_40 (lv_at hl 0 rfl) ?_
    refine lv_iload hx hb dX0_appendSet_42 (lv_at hl 1 rfl) ?_
    refine lv_iconst (v := -1) hx hb dX0_appendSet_44 (by decide) ?_
    refine lv_icmp_ne (tgt := 52) hx hb dX0_appendSet_45 (by decide) (fun c => absurd (by decide) c) (fun _ => ?_)
    refine lv_iconst (v := nI 1) hx hb dX0_appendSet_48 (by decide) ?_
    refine lv_goto (tgt := 61) hx hb dX0_appendSet_49 (by decide) ?_
    refine rk_iast hx hb hK hP hD hS 5 0 rfl rfl (i := n) (by omega) (by decide) dX0_appendSet_61 (fun H locs hP hD hS => ?_)
    have hP : va_P D vwCl [(g0, .inr (0, [.int (nI r), .int (nI (n + 1)), .ref gk, .ref gr, .ref gs, .ref gv, .ref gw, .ref gc, .ref gp, .ref gb])), (gk, .inl (cI, 300, .inl (upd kf n key))), (gr, .inl (cI, 300, .inl (upd rf n (nI r)))), (gs, .inl (cZ, 300, .inl (upd sf n (nI 1)))), (gv, .inl (cJ, 300, .inr (.inl (vp_updL vf n v)))), (gw, .inl (cI, 300, .inl (upd wf n (nI 1)))), (gc, .inl (cI, 300, .inl cf)), (gp, .inl (cI, 300, .inl (upd pf n (nI 301)))), (gb, .inl (cI, 300, .inl u_15))] H := hP
    have hD : va_D A [(g0, .inr (0, [.int (nI r), .int (nI (n + 1)), .ref gk, .ref gr, .ref gs, .ref gv, .ref gw, .ref gc, .ref gp, .ref gb])), (gk, .inl (cI, 300, .inl (upd kf n key))), (gr, .inl (cI, 300, .inl (upd rf n (nI r)))), (gs, .inl (cZ, 300, .inl (upd sf n (nI 1)))), (gv, .inl (cJ, 300, .inr (.inl (vp_updL vf n v)))), (gw, .inl (cI, 300, .inl (upd wf n (nI 1)))), (gc, .inl (cI, 300, .inl cf)), (gp, .inl (cI, 300, .inl (upd pf n (nI 301)))), (gb, .inl (cI, 300, .inl u_15))] := hD
    refine lv_aload_n hx hb dX0_appendSet_62 rfl (lv_at hl 2 rfl) ?_
    refine va_get (D := D) (ci := 0) (v := .ref gc) (C := RX0) (T := TX0) (N := 10) hx hb hts mu_X0 hown hK hP 0 rfl rfl 7 (by decide) (hts _ (List.mem_cons_of_mem _ mw_39)) (fun _ h9 => h9) rfl dX0_appendSet_63 ?_
    refine lv_iload hx hb dX0_appendSet_66 (lv_at hl 0 rfl) ?_
    refine lv_iload hx hb dX0_appendSet_68 (lv_at hl 1 rfl) ?_
    refine lv_iconst (v := -1) hx hb dX0_appendSet_70 (by decide) ?_
    refine lv_icmp_ne (tgt := 81) hx hb dX0_appendSet_71 (by decide) (fun c => absurd (by decide) c) (fun _ => ?_)
    refine lv_aload_n hx hb dX0_appendSet_74 rfl (lv_at hl 2 rfl) ?_
    refine va_get (D := D) (ci := 0) (v := .int (nI r)) (C := RX0) (T := TX0) (N := 10) hx hb hts mu_X0 hown hK hP 0 rfl rfl 0 (by decide) (hts _ (List.mem_cons_of_mem _ mw_27)) (fun _ h9 => h9) rfl dX0_appendSet_75 ?_
    refine lv_goto (tgt := 88) hx hb dX0_appendSet_78 (by decide) ?_
    refine rk_iast hx hb hK hP hD hS 6 0 rfl rfl (i := n) (by omega) (by decide) dX0_appendSet_88 (fun H locs hP hD hS => ?_)
    have hP : va_P D vwCl [(g0, .inr (0, [.int (nI r), .int (nI (n + 1)), .ref gk, .ref gr, .ref gs, .ref gv, .ref gw, .ref gc, .ref gp, .ref gb])), (gk, .inl (cI, 300, .inl (upd kf n key))), (gr, .inl (cI, 300, .inl (upd rf n (nI r)))), (gs, .inl (cZ, 300, .inl (upd sf n (nI 1)))), (gv, .inl (cJ, 300, .inr (.inl (vp_updL vf n v)))), (gw, .inl (cI, 300, .inl (upd wf n (nI 1)))), (gc, .inl (cI, 300, .inl (upd cf n (nI r)))), (gp, .inl (cI, 300, .inl (upd pf n (nI 301)))), (gb, .inl (cI, 300, .inl u_15))] H := hP
    have hD : va_D A [(g0, .inr (0, [.int (nI r), .int (nI (n + 1)), .ref gk, .ref gr, .ref gs, .ref gv, .ref gw, .ref gc, .ref gp, .ref gb])), (gk, .inl (cI, 300, .inl (upd kf n key))), (gr, .inl (cI, 300, .inl (upd rf n (nI r)))), (gs, .inl (cZ, 300, .inl (upd sf n (nI 1)))), (gv, .inl (cJ, 300, .inr (.inl (vp_updL vf n v)))), (gw, .inl (cI, 300, .inl (upd wf n (nI 1)))), (gc, .inl (cI, 300, .inl (upd cf n (nI r)))), (gp, .inl (cI, 300, .inl (upd pf n (nI 301)))), (gb, .inl (cI, 300, .inl u_15))] := hD
    exact rw_retv (u := ((upd pf n (nI 301)), u_15, (upd wf n (nI 1)), (upd cf n (nI r)))) hAe (hP) (hD) hS hK (⟨hw_15, by first | exact Or.inl ⟨hw_6, rfl, rfl, rfl⟩ | exact Or.inr ⟨j, hj, hw_6, rfl, rfl, rfl⟩⟩) (Nat.le_of_ble_eq_true rfl) (Nat.le_of_ble_eq_true rfl) hx hb hr hlocks dX0_appendSet_89
  · skip
    refine lv_istore (lv' := [(4, .int (nI j)), (0, .ref g0), (1, .int key), (2, .long v)]) hx hb dX0_appendSet_9 hl (by decide) rfl (fun ls hl => ?_)
    refine lv_aload_n hx hb dX0_appendSet_11 rfl (lv_at hl 1 rfl) ?_
    refine lv_iload_n hx hb dX0_appendSet_12 rfl (lv_at hl 2 rfl) ?_
    refine lv_iload hx hb dX0_appendSet_13 (lv_at hl 0 rfl) ?_
    refine rw_callVi (wr := []) (As := [.int key, .int (nI j)]) (rest := []) ⟨hx, hb, hml, hown, hts⟩ (c_X0_append1 l D cI cJ cZ s.heap.size g0 gk gr gs gv gw gc gp gb r n kf rf sf vf wf cf pf bf bn (by omega) (by omega) (hbn) key j (by omega)) (cwV 2 hts (wB_V mw_225 mw_227 ms_3 mw_2 mw_228) rfl rfl rfl (by decide +kernel) ⟨Nat.le_of_ble_eq_true rfl, Nat.le_of_ble_eq_true rfl⟩) (va_recv hK hP (ci := 0) (q0 := 0) rfl rfl) hK hP hD hS hA [0, 1, 2, 3, 4, 5, 6, 7, 8] [] rfl rfl rfl (by decide) (by decide) (by decide) rfl hl.1 (Nat.le_of_ble_eq_true rfl) ⟨Nat.le_of_ble_eq_true rfl, Nat.le_of_ble_eq_true rfl⟩ rfl dX0_appendSet_15 (fun r_15 u_15 H locs hw_15 hP hD hS => ?_)
    try dsimp only at hw_15
    have hP : va_P D vwCl [(g0, .inr (0, [.int (nI r), .int (nI (n + 1)), .ref gk, .ref gr, .ref gs, .ref gv, .ref gw, .ref gc, .ref gp, .ref gb])), (gk, .inl (cI, 300, .inl (upd kf n key))), (gr, .inl (cI, 300, .inl (upd rf n (nI r)))), (gs, .inl (cZ, 300, .inl sf)), (gv, .inl (cJ, 300, .inr (.inl vf))), (gw, .inl (cI, 300, .inl wf)), (gc, .inl (cI, 300, .inl cf)), (gp, .inl (cI, 300, .inl (upd (upd pf j (nI r)) n (nI 301)))), (gb, .inl (cI, 300, .inl u_15))] H := hP.sub [0, 1, 2, 3, 4, 5, 6, 7, 8] rfl
    have hD : va_D A [(g0, .inr (0, [.int (nI r), .int (nI (n + 1)), .ref gk, .ref gr, .ref gs, .ref gv, .ref gw, .ref gc, .ref gp, .ref gb])), (gk, .inl (cI, 300, .inl (upd kf n key))), (gr, .inl (cI, 300, .inl (upd rf n (nI r)))), (gs, .inl (cZ, 300, .inl sf)), (gv, .inl (cJ, 300, .inr (.inl vf))), (gw, .inl (cI, 300, .inl wf)), (gc, .inl (cI, 300, .inl cf)), (gp, .inl (cI, 300, .inl (upd (upd pf j (nI r)) n (nI 301)))), (gb, .inl (cI, 300, .inl u_15))] := hD.sub [0, 1, 2, 3, 4, 5, 6, 7, 8] (by decide) rfl
    obtain ⟨rfl, hw_15⟩ := hw_15
    refine lv_istore (lv' := [(5, .int (nI n)), (4, .int (nI j)), (0, .ref g0), (1, .int key), (2, .long v)]) hx hb dX0_appendSet_18 hl (by decide) rfl (fun ls hl => ?_)
    refine lv_aload_n hx hb dX0_appendSet_20 rfl (lv_at hl 2 rfl) ?_
    refine va_get (D := D) (ci := 0) (v := .ref gs) (C := RX0) (T := TX0) (N := 10) hx hb hts mu_X0 hown hK hP 0 rfl rfl 4 (by decide) (hts _ (List.mem_cons_of_mem _ mw_35)) (fun _ h9 => h9) rfl dX0_appendSet_21 ?_
    refine lv_iload hx hb dX0_appendSet_24 (lv_at hl 0 rfl) ?_
    refine lv_iconst (v := nI 1) hx hb dX0_appendSet_26 (by decide) ?_
    refine rk_zast hx hb hK hP hD hS 3 2 rfl rfl (i := n) (by decide) (by omega) (by decide) dX0_appendSet_27 (fun H locs hP hD hS => ?_)
    have hP : va_P D vwCl [(g0, .inr (0, [.int (nI r), .int (nI (n + 1)), .ref gk, .ref gr, .ref gs, .ref gv, .ref gw, .ref gc, .ref gp, .ref gb])), (gk, .inl (cI, 300, .inl (upd kf n key))), (gr, .inl (cI, 300, .inl (upd rf n (nI r)))), (gs, .inl (cZ, 300, .inl (upd sf n (nI 1)))), (gv, .inl (cJ, 300, .inr (.inl vf))), (gw, .inl (cI, 300, .inl wf)), (gc, .inl (cI, 300, .inl cf)), (gp, .inl (cI, 300, .inl (upd (upd pf j (nI r)) n (nI 301)))), (gb, .inl (cI, 300, .inl u_15))] H := hP
    have hD : va_D A [(g0, .inr (0, [.int (nI r), .int (nI (n + 1)), .ref gk, .ref gr, .ref gs, .ref gv, .ref gw, .ref gc, .ref gp, .ref gb])), (gk, .inl (cI, 300, .inl (upd kf n key))), (gr, .inl (cI, 300, .inl (upd rf n (nI r)))), (gs, .inl (cZ, 300, .inl (upd sf n (nI 1)))), (gv, .inl (cJ, 300, .inr (.inl vf))), (gw, .inl (cI, 300, .inl wf)), (gc, .inl (cI, 300, .inl cf)), (gp, .inl (cI, 300, .inl (upd (upd pf j (nI r)) n (nI 301)))), (gb, .inl (cI, 300, .inl u_15))] := hD
    refine lv_aload_n hx hb dX0_appendSet_28 rfl (lv_at hl 2 rfl) ?_
    refine va_get (D := D) (ci := 0) (v := .ref gv) (C := RX0) (T := TX0) (N := 10) hx hb hts mu_X0 hown hK hP 0 rfl rfl 5 (by decide) (hts _ (List.mem_cons_of_mem _ mw_36)) (fun _ h9 => h9) rfl dX0_appendSet_29 ?_
    refine lv_iload hx hb dX0_appendSet_32 (lv_at hl 0 rfl) ?_
    refine lv_lload_n hx hb dX0_appendSet_34 rfl (lv_at hl 4 rfl) ?_
    refine rk_last hx hb hK hP hD hS 4 1 rfl rfl (i := n) (by omega) (by decide) dX0_appendSet_35 (fun H locs hP hD hS => ?_)
    have hP : va_P D vwCl [(g0, .inr (0, [.int (nI r), .int (nI (n + 1)), .ref gk, .ref gr, .ref gs, .ref gv, .ref gw, .ref gc, .ref gp, .ref gb])), (gk, .inl (cI, 300, .inl (upd kf n key))), (gr, .inl (cI, 300, .inl (upd rf n (nI r)))), (gs, .inl (cZ, 300, .inl (upd sf n (nI 1)))), (gv, .inl (cJ, 300, .inr (.inl (vp_updL vf n v)))), (gw, .inl (cI, 300, .inl wf)), (gc, .inl (cI, 300, .inl cf)), (gp, .inl (cI, 300, .inl (upd (upd pf j (nI r)) n (nI 301)))), (gb, .inl (cI, 300, .inl u_15))] H := hP
    have hD : va_D A [(g0, .inr (0, [.int (nI r), .int (nI (n + 1)), .ref gk, .ref gr, .ref gs, .ref gv, .ref gw, .ref gc, .ref gp, .ref gb])), (gk, .inl (cI, 300, .inl (upd kf n key))), (gr, .inl (cI, 300, .inl (upd rf n (nI r)))), (gs, .inl (cZ, 300, .inl (upd sf n (nI 1)))), (gv, .inl (cJ, 300, .inr (.inl (vp_updL vf n v)))), (gw, .inl (cI, 300, .inl wf)), (gc, .inl (cI, 300, .inl cf)), (gp, .inl (cI, 300, .inl (upd (upd pf j (nI r)) n (nI 301)))), (gb, .inl (cI, 300, .inl u_15))] := hD
    refine lv_aload_n hx hb dX0_appendSet_36 rfl (lv_at hl 2 rfl) ?_
    refine va_get (D := D) (ci := 0) (v := .ref gw) (C := RX0) (T := TX0) (N := 10) hx hb hts mu_X0 hown hK hP 0 rfl rfl 6 (by decide) (hts _ (List.mem_cons_of_mem _ mw_38)) (fun _ h9 => h9) rfl dX0_appendSet_37 ?_
    refine lv_iload hx hb dX0_appendSet_40 (lv_at hl 0 rfl) ?_
    refine lv_iload hx hb dX0_appendSet_42 (lv_at hl 1 rfl) ?_
    refine lv_iconst (v := -1) hx hb dX0_appendSet_44 (by decide) ?_
    refine lv_icmp_ne (tgt := 52) hx hb dX0_appendSet_45 (by decide) (fun _ => ?_) (fun c => absurd c (zn_nm1 (n := j) (by omega)))
    refine lv_aload_n hx hb dX0_appendSet_52 rfl (lv_at hl 2 rfl) ?_
    refine va_get (D := D) (ci := 0) (v := .ref gw) (C := RX0) (T := TX0) (N := 10) hx hb hts mu_X0 hown hK hP 0 rfl rfl 6 (by decide) (hts _ (List.mem_cons_of_mem _ mw_38)) (fun _ h9 => h9) rfl dX0_appendSet_53 ?_
    refine lv_iload hx hb dX0_appendSet_56 (lv_at hl 1 rfl) ?_
    refine rk_iald hx hb hK hP 5 0 rfl rfl (i := j) (by omega) (by decide) dX0_appendSet_58 ?_
    refine lv_iconst (v := nI 1) hx hb dX0_appendSet_59 (by decide) ?_
    refine lv_iadd hx hb dX0_appendSet_60 ?_
    refine rk_iast hx hb hK hP hD hS 5 0 rfl rfl (i := n) (by omega) (by decide) dX0_appendSet_61 (fun H locs hP hD hS => ?_)
    have hP : va_P D vwCl [(g0, .inr (0, [.int (nI r), .int (nI (n + 1)), .ref gk, .ref gr, .ref gs, .ref gv, .ref gw, .ref gc, .ref gp, .ref gb])), (gk, .inl (cI, 300, .inl (upd kf n key))), (gr, .inl (cI, 300, .inl (upd rf n (nI r)))), (gs, .inl (cZ, 300, .inl (upd sf n (nI 1)))), (gv, .inl (cJ, 300, .inr (.inl (vp_updL vf n v)))), (gw, .inl (cI, 300, .inl (upd wf n (wf j + nI 1)))), (gc, .inl (cI, 300, .inl cf)), (gp, .inl (cI, 300, .inl (upd (upd pf j (nI r)) n (nI 301)))), (gb, .inl (cI, 300, .inl u_15))] H := hP
    have hD : va_D A [(g0, .inr (0, [.int (nI r), .int (nI (n + 1)), .ref gk, .ref gr, .ref gs, .ref gv, .ref gw, .ref gc, .ref gp, .ref gb])), (gk, .inl (cI, 300, .inl (upd kf n key))), (gr, .inl (cI, 300, .inl (upd rf n (nI r)))), (gs, .inl (cZ, 300, .inl (upd sf n (nI 1)))), (gv, .inl (cJ, 300, .inr (.inl (vp_updL vf n v)))), (gw, .inl (cI, 300, .inl (upd wf n (wf j + nI 1)))), (gc, .inl (cI, 300, .inl cf)), (gp, .inl (cI, 300, .inl (upd (upd pf j (nI r)) n (nI 301)))), (gb, .inl (cI, 300, .inl u_15))] := hD
    refine lv_aload_n hx hb dX0_appendSet_62 rfl (lv_at hl 2 rfl) ?_
    refine va_get (D := D) (ci := 0) (v := .ref gc) (C := RX0) (T := TX0) (N := 10) hx hb hts mu_X0 hown hK hP 0 rfl rfl 7 (by decide) (hts _ (List.mem_cons_of_mem _ mw_39)) (fun _ h9 => h9) rfl dX0_appendSet_63 ?_
    refine lv_iload hx hb dX0_appendSet_66 (lv_at hl 0 rfl) ?_
    refine lv_iload hx hb dX0_appendSet_68 (lv_at hl 1 rfl) ?_
    refine lv_iconst (v := -1) hx hb dX0_appendSet_70 (by decide) ?_
    refine lv_icmp_ne (tgt := 81) hx hb dX0_appendSet_71 (by decide) (fun _ => ?_) (fun c => absurd c (zn_nm1 (n := j) (by omega)))
    refine lv_aload_n hx hb dX0_appendSet_81 rfl (lv_at hl 2 rfl) ?_
    refine va_get (D := D) (ci := 0) (v := .ref gc) (C := RX0) (T := TX0) (N := 10) hx hb hts mu_X0 hown hK hP 0 rfl rfl 7 (by decide) (hts _ (List.mem_cons_of_mem _ mw_39)) (fun _ h9 => h9) rfl dX0_appendSet_82 ?_
    refine lv_iload hx hb dX0_appendSet_85 (lv_at hl 1 rfl) ?_
    refine rk_iald hx hb hK hP 6 0 rfl rfl (i := j) (by omega) (by decide) dX0_appendSet_87 ?_
    refine rk_iast hx hb hK hP hD hS 6 0 rfl rfl (i := n) (by omega) (by decide) dX0_appendSet_88 (fun H locs hP hD hS => ?_)
    have hP : va_P D vwCl [(g0, .inr (0, [.int (nI r), .int (nI (n + 1)), .ref gk, .ref gr, .ref gs, .ref gv, .ref gw, .ref gc, .ref gp, .ref gb])), (gk, .inl (cI, 300, .inl (upd kf n key))), (gr, .inl (cI, 300, .inl (upd rf n (nI r)))), (gs, .inl (cZ, 300, .inl (upd sf n (nI 1)))), (gv, .inl (cJ, 300, .inr (.inl (vp_updL vf n v)))), (gw, .inl (cI, 300, .inl (upd wf n (wf j + nI 1)))), (gc, .inl (cI, 300, .inl (upd cf n (cf j)))), (gp, .inl (cI, 300, .inl (upd (upd pf j (nI r)) n (nI 301)))), (gb, .inl (cI, 300, .inl u_15))] H := hP
    have hD : va_D A [(g0, .inr (0, [.int (nI r), .int (nI (n + 1)), .ref gk, .ref gr, .ref gs, .ref gv, .ref gw, .ref gc, .ref gp, .ref gb])), (gk, .inl (cI, 300, .inl (upd kf n key))), (gr, .inl (cI, 300, .inl (upd rf n (nI r)))), (gs, .inl (cZ, 300, .inl (upd sf n (nI 1)))), (gv, .inl (cJ, 300, .inr (.inl (vp_updL vf n v)))), (gw, .inl (cI, 300, .inl (upd wf n (wf j + nI 1)))), (gc, .inl (cI, 300, .inl (upd cf n (cf j)))), (gp, .inl (cI, 300, .inl (upd (upd pf j (nI r)) n (nI 301)))), (gb, .inl (cI, 300, .inl u_15))] := hD
    exact rw_retv (u := ((upd (upd pf j (nI r)) n (nI 301)), u_15, (upd wf n (wf j + nI 1)), (upd cf n (cf j)))) hAe (hP) (hD) hS hK (⟨hw_15, by first | exact Or.inl ⟨hw_6, rfl, rfl, rfl⟩ | exact Or.inr ⟨j, hj, hw_6, rfl, rfl, rfl⟩⟩) (Nat.le_of_ble_eq_true rfl) (Nat.le_of_ble_eq_true rfl) hx hb hr hlocks dX0_appendSet_89
set_option maxHeartbeats 4000000 in
set_option maxRecDepth 100000 in
theorem c_X0_appendRemoval (l : Launch) (D : va_G) (cI cJ cZ : ClassId) (sz : Nat) (g0 gk gr gs gv gw gc gp gb r n : Nat) (kf rf sf : Nat → Int32) (vf : Nat → Int64) (wf cf pf bf : Nat → Int32) (bn : Nat → Nat) (hn : n ≤ 300) (hr3 : r ≤ 300) (hbn : ∀ q, q < n → bf q = nI (bn q) ∧ bn q < n) (key : Int32) (hroom : (∃ j, j < n ∧ (kf j = key ∧ hld sf rf pf j (nI r))) → n < 300) : Met l yX0_appendRemoval (Cond.code yX0_appendRemoval cX0_appendRemoval 3 none :: wB) ({ frames := 2, cells := 0, slots := 0, locals := 45 } : Room) (rw_Pc D cI cJ cZ sz [.ref g0, .int key] [(g0, .inr (0, [.int (nI r), .int (nI n), .ref gk, .ref gr, .ref gs, .ref gv, .ref gw, .ref gc, .ref gp, .ref gb])), (gk, .inl (cI, 300, .inl kf)), (gr, .inl (cI, 300, .inl rf)), (gs, .inl (cZ, 300, .inl sf)), (gv, .inl (cJ, 300, .inr (.inl vf))), (gw, .inl (cI, 300, .inl wf)), (gc, .inl (cI, 300, .inl cf)), (gp, .inl (cI, 300, .inl pf)), (gb, .inl (cI, 300, .inl bf))]) (rw_Qv (S := Nat × (Nat → Int32) × (Nat → Int32) × (Nat → Int32) × (Nat → Int32)) D cI cJ cZ sz [(g0, .inr (0, [.int (nI r), .int (nI n), .ref gk, .ref gr, .ref gs, .ref gv, .ref gw, .ref gc, .ref gp, .ref gb])), (gk, .inl (cI, 300, .inl kf)), (gr, .inl (cI, 300, .inl rf)), (gs, .inl (cZ, 300, .inl sf)), (gv, .inl (cJ, 300, .inr (.inl vf))), (gw, .inl (cI, 300, .inl wf)), (gc, .inl (cI, 300, .inl cf)), (gp, .inl (cI, 300, .inl pf)), (gb, .inl (cI, 300, .inl bf))] (fun u => [(g0, .inr (0, [.int (nI r), .int (nI u.1), .ref gk, .ref gr, .ref gs, .ref gv, .ref gw, .ref gc, .ref gp, .ref gb])), (gk, .inl (cI, 300, .inl u.2.1)), (gr, .inl (cI, 300, .inl u.2.2.1)), (gs, .inl (cZ, 300, .inl sf)), (gv, .inl (cJ, 300, .inr (.inl vf))), (gw, .inl (cI, 300, .inl wf)), (gc, .inl (cI, 300, .inl cf)), (gp, .inl (cI, 300, .inl u.2.2.2.1)), (gb, .inl (cI, 300, .inl u.2.2.2.2))]) (fun u => (u = (n, kf, rf, pf, bf) ∧ ∀ j, j < n → ¬ (kf j = key ∧ hld sf rf pf j (nI r))) ∨ (u.1 = n + 1 ∧ u.2.1 = upd kf n key ∧ u.2.2.1 = upd rf n (nI r) ∧ srt (upd kf n key) bn u.2.2.2.2 n ∧ ∃ j, j < n ∧ (kf j = key ∧ hld sf rf pf j (nI r)) ∧ u.2.2.2.1 = upd (upd pf j (nI r)) n (nI 301)))) 0 0 (va_A [(g0, .inr (0, [.int (nI r), .int (nI n), .ref gk, .ref gr, .ref gs, .ref gv, .ref gw, .ref gc, .ref gp, .ref gb])), (gk, .inl (cI, 300, .inl kf)), (gr, .inl (cI, 300, .inl rf)), (gs, .inl (cZ, 300, .inl sf)), (gv, .inl (cJ, 300, .inr (.inl vf))), (gw, .inl (cI, 300, .inl wf)), (gc, .inl (cI, 300, .inl cf)), (gp, .inl (cI, 300, .inl pf)), (gb, .inl (cI, 300, .inl bf))] sz) := by
  refine Met.ofW (cc := cX0_appendRemoval) (maxL := 3) (ret := none) (by decide) rfl ?_
  intro p e s m args below meth c s₁ B hml hv
  obtain ⟨rfl, hsz, hP, hK, hD0⟩ := hv
  have hx := B.exec
  have hb := B.bytes
  have hr := B.returns
  have hts := atoms_spec (ws := (Cond.code yX0_appendRemoval cX0_appendRemoval 3 none :: wB)) B.pre
  have hown : s.vm.findClass RX0 = some m.cls := findClass_of_methodNamed B.named
  have hlocks := B.notSynchronized
  subst hsz
  have hD := hD0.self (sz := s.heap.size)
  obtain ⟨A, hAe⟩ : ∃ A, A = va_A [(g0, .inr (0, [.int (nI r), .int (nI n), .ref gk, .ref gr, .ref gs, .ref gv, .ref gw, .ref gc, .ref gp, .ref gb])), (gk, .inl (cI, 300, .inl kf)), (gr, .inl (cI, 300, .inl rf)), (gs, .inl (cZ, 300, .inl sf)), (gv, .inl (cJ, 300, .inr (.inl vf))), (gw, .inl (cI, 300, .inl wf)), (gc, .inl (cI, 300, .inl cf)), (gp, .inl (cI, 300, .inl pf)), (gb, .inl (cI, 300, .inl bf))] s.heap.size := ⟨_, rfl⟩
  rw [← hAe] at hD
  have hA : ∀ q : Nat, s.heap.size ≤ q → A q := fun q h => by rw [hAe]; exact Or.inr h
  have hS : va_S A s.heap s.heap [] := va_S.rf
  have hl := lv_entry ([.ref g0, .int key]) (n := 3) (Nat.le_of_ble_eq_true rfl)
  rw [lg_entry_eq]
  generalize (lg_sl ([.ref g0, .int key]) ++ List.replicate (3 - (lg_sl ([.ref g0, .int key])).length) Slot.unset).toArray = ls at hl ⊢
  have hl : lv_has ls 3 [(0, .ref g0), (1, .int key)] := hl
  refine lv_aload_n hx hb dX0_appendRemoval_0 rfl (lv_at hl 0 rfl) ?_
  refine lv_iload_n hx hb dX0_appendRemoval_1 rfl (lv_at hl 1 rfl) ?_
  refine lv_aload_n hx hb dX0_appendRemoval_2 rfl (lv_at hl 0 rfl) ?_
  refine va_get (D := D) (ci := 0) (v := .int (nI r)) (C := RX0) (T := TX0) (N := 10) hx hb hts mu_X0 hown hK hP 0 rfl rfl 0 (by decide) (hts _ (List.mem_cons_of_mem _ mw_27)) (fun _ h9 => h9) rfl dX0_appendRemoval_3 ?_
  refine ro_callVi (As := [.int key, .int (nI r)]) (rest := []) ⟨hx, hb, hml, hown, hts⟩ (c_X0_find l D cI cJ cZ g0 gk gr gs gv gw gc gp gb r n kf rf sf vf wf cf pf bf (by omega) key (nI r)) (cwV 2 hts (wB_V mw_221 mw_222 mw_223 mw_2 mw_224) rfl rfl rfl (by decide +kernel) ⟨Nat.le_of_ble_eq_true rfl, Nat.le_of_ble_eq_true rfl⟩) (va_recv hK hP (ci := 0) (q0 := 0) rfl rfl) (hP.sub (ws' := [(g0, .inr (0, [.int (nI r), .int (nI n), .ref gk, .ref gr, .ref gs, .ref gv, .ref gw, .ref gc, .ref gp, .ref gb])), (gk, .inl (cI, 300, .inl kf)), (gr, .inl (cI, 300, .inl rf)), (gs, .inl (cZ, 300, .inl sf)), (gv, .inl (cJ, 300, .inr (.inl vf))), (gw, .inl (cI, 300, .inl wf)), (gc, .inl (cI, 300, .inl cf)), (gp, .inl (cI, 300, .inl pf)), (gb, .inl (cI, 300, .inl bf))]) [0, 1, 2, 3, 4, 5, 6, 7, 8] rfl) hK rfl hl.1 (Nat.le_of_ble_eq_true rfl) ⟨Nat.le_of_ble_eq_true rfl, Nat.le_of_ble_eq_true rfl⟩ rfl dX0_appendRemoval_6 (fun r_6 hw_6 => ?_)
  try dsimp only at hw_6
  rcases hw_6 with ⟨rfl, hw_6⟩ | ⟨j, hj, rfl, hw_6, hq⟩
  · skip
    refine lv_istore_n (lv' := [(2, .int (-1)), (0, .ref g0), (1, .int key)]) hx hb dX0_appendRemoval_9 rfl hl (by decide) rfl (fun ls hl => ?_)
    refine lv_iload_n hx hb dX0_appendRemoval_10 rfl (lv_at hl 0 rfl) ?_
    refine lv_iconst (v := -1) hx hb dX0_appendRemoval_11 (by decide) ?_
    refine lv_icmp_eq (tgt := 22) hx hb dX0_appendRemoval_12 (by decide) (fun _ => ?_) (fun c => absurd (by decide) c)
    exact rw_retv (u := (n, kf, rf, pf, bf)) hAe (hP) (hD) hS hK (by first | exact Or.inl ⟨rfl, hw_6⟩ | exact Or.inr ⟨rfl, rfl, rfl, hw_18, j, hj, hw_6, rfl⟩) (Nat.le_of_ble_eq_true rfl) (Nat.le_of_ble_eq_true rfl) hx hb hr hlocks dX0_appendRemoval_22
  · have hn3 := hroom ⟨j, hj, hw_6⟩
    refine lv_istore_n (lv' := [(2, .int (nI j)), (0, .ref g0), (1, .int key)]) hx hb dX0_appendRemoval_9 rfl hl (by decide) rfl (fun ls hl => ?_)
    refine lv_iload_n hx hb dX0_appendRemoval_10 rfl (lv_at hl 0 rfl) ?_
    refine lv_iconst (v := -1) hx hb dX0_appendRemoval_11 (by decide) ?_
    refine lv_icmp_eq (tgt := 22) hx hb dX0_appendRemoval_12 (by decide) (fun c => absurd c (zn_nm1 (n := j) (by omega))) (fun _ => ?_)
    refine lv_aload_n hx hb dX0_appendRemoval_15 rfl (lv_at hl 1 rfl) ?_
    refine lv_iload_n hx hb dX0_appendRemoval_16 rfl (lv_at hl 2 rfl) ?_
    refine lv_iload_n hx hb dX0_appendRemoval_17 rfl (lv_at hl 0 rfl) ?_
    refine rw_callVi (wr := []) (As := [.int key, .int (nI j)]) (rest := []) ⟨hx, hb, hml, hown, hts⟩ (c_X0_append1 l D cI cJ cZ s.heap.size g0 gk gr gs gv gw gc gp gb r n kf rf sf vf wf cf pf bf bn (by omega) (by omega) (hbn) key j (by omega)) (cwV 2 hts (wB_V mw_225 mw_227 ms_3 mw_2 mw_228) rfl rfl rfl (by decide +kernel) ⟨Nat.le_of_ble_eq_true rfl, Nat.le_of_ble_eq_true rfl⟩) (va_recv hK hP (ci := 0) (q0 := 0) rfl rfl) hK hP hD hS hA [0, 1, 2, 3, 4, 5, 6, 7, 8] [] rfl rfl rfl (by decide) (by decide) (by decide) rfl hl.1 (Nat.le_of_ble_eq_true rfl) ⟨Nat.le_of_ble_eq_true rfl, Nat.le_of_ble_eq_true rfl⟩ rfl dX0_appendRemoval_18 (fun r_18 u_18 H locs hw_18 hP hD hS => ?_)
    try dsimp only at hw_18
    have hP : va_P D vwCl [(g0, .inr (0, [.int (nI r), .int (nI (n + 1)), .ref gk, .ref gr, .ref gs, .ref gv, .ref gw, .ref gc, .ref gp, .ref gb])), (gk, .inl (cI, 300, .inl (upd kf n key))), (gr, .inl (cI, 300, .inl (upd rf n (nI r)))), (gs, .inl (cZ, 300, .inl sf)), (gv, .inl (cJ, 300, .inr (.inl vf))), (gw, .inl (cI, 300, .inl wf)), (gc, .inl (cI, 300, .inl cf)), (gp, .inl (cI, 300, .inl (upd (upd pf j (nI r)) n (nI 301)))), (gb, .inl (cI, 300, .inl u_18))] H := hP.sub [0, 1, 2, 3, 4, 5, 6, 7, 8] rfl
    have hD : va_D A [(g0, .inr (0, [.int (nI r), .int (nI (n + 1)), .ref gk, .ref gr, .ref gs, .ref gv, .ref gw, .ref gc, .ref gp, .ref gb])), (gk, .inl (cI, 300, .inl (upd kf n key))), (gr, .inl (cI, 300, .inl (upd rf n (nI r)))), (gs, .inl (cZ, 300, .inl sf)), (gv, .inl (cJ, 300, .inr (.inl vf))), (gw, .inl (cI, 300, .inl wf)), (gc, .inl (cI, 300, .inl cf)), (gp, .inl (cI, 300, .inl (upd (upd pf j (nI r)) n (nI 301)))), (gb, .inl (cI, 300, .inl u_18))] := hD.sub [0, 1, 2, 3, 4, 5, 6, 7, 8] (by decide) rfl
    obtain ⟨rfl, hw_18⟩ := hw_18
    refine lv_pop hx hb dX0_appendRemoval_21 rfl ?_
    exact rw_retv (u := ((n + 1), (upd kf n key), (upd rf n (nI r)), (upd (upd pf j (nI r)) n (nI 301)), u_18)) hAe (hP) (hD) hS hK (by first | exact Or.inl ⟨rfl, hw_6⟩ | exact Or.inr ⟨rfl, rfl, rfl, hw_18, j, hj, hw_6, rfl⟩) (Nat.le_of_ble_eq_true rfl) (Nat.le_of_ble_eq_true rfl) hx hb hr hlocks dX0_appendRemoval_22
set_option maxHeartbeats 4000000 in
set_option maxRecDepth 100000 in
theorem c_X0_init (l : Launch) (D : va_G) (cI cJ cZ : ClassId) (sz : Nat) (g0 : Nat) : Met l yX0_init (Cond.code yX0_init cX0_init 1 none :: wB) ({ frames := 1, cells := 8, slots := 2400, locals := 12 } : Room) (rw_Pc D cI cJ cZ sz [.ref g0] [(g0, .inr (0, [.int 0, .int 0, .null, .null, .null, .null, .null, .null, .null, .null]))]) (rw_Qv (S := Nat × Nat × Nat × Nat × Nat × Nat × Nat × Nat) D cI cJ cZ sz [(g0, .inr (0, [.int 0, .int 0, .null, .null, .null, .null, .null, .null, .null, .null]))] (fun u => [(g0, .inr (0, [.int (nI 0), .int (nI 0), .ref u.1, .ref u.2.1, .ref u.2.2.1, .ref u.2.2.2.1, .ref u.2.2.2.2.1, .ref u.2.2.2.2.2.1, .ref u.2.2.2.2.2.2.1, .ref u.2.2.2.2.2.2.2])), (u.1, .inl (cI, 300, .inl (fun _ => 0))), (u.2.1, .inl (cI, 300, .inl (fun _ => 0))), (u.2.2.1, .inl (cZ, 300, .inl (fun _ => 0))), (u.2.2.2.1, .inl (cJ, 300, .inr (.inl (fun _ => 0)))), (u.2.2.2.2.1, .inl (cI, 300, .inl (fun _ => 0))), (u.2.2.2.2.2.1, .inl (cI, 300, .inl (fun _ => 0))), (u.2.2.2.2.2.2.1, .inl (cI, 300, .inl (fun _ => 0))), (u.2.2.2.2.2.2.2, .inl (cI, 300, .inl (fun _ => 0)))]) (fun _ => True)) 8 2400 (va_A [(g0, .inr (0, [.int 0, .int 0, .null, .null, .null, .null, .null, .null, .null, .null]))] sz) := by
  refine Met.ofW (cc := cX0_init) (maxL := 1) (ret := none) (by decide) rfl ?_
  intro p e s m args below meth c s₁ B hml hv
  obtain ⟨rfl, hsz, hP, hK, hD0⟩ := hv
  have hx := B.exec
  have hb := B.bytes
  have hr := B.returns
  have hts := atoms_spec (ws := (Cond.code yX0_init cX0_init 1 none :: wB)) B.pre
  have hown : s.vm.findClass RX0 = some m.cls := findClass_of_methodNamed B.named
  have hlocks := B.notSynchronized
  have hin : meth.name = "<init>" := (name_of_methodNamed B.named B.method).1
  subst hsz
  have hD := hD0.self (sz := s.heap.size)
  obtain ⟨A, hAe⟩ : ∃ A, A = va_A [(g0, .inr (0, [.int 0, .int 0, .null, .null, .null, .null, .null, .null, .null, .null]))] s.heap.size := ⟨_, rfl⟩
  rw [← hAe] at hD
  have hA : ∀ q : Nat, s.heap.size ≤ q → A q := fun q h => by rw [hAe]; exact Or.inr h
  have hS : va_S A s.heap s.heap [] := va_S.rf
  have hl := lv_entry ([.ref g0]) (n := 1) (Nat.le_of_ble_eq_true rfl)
  rw [lg_entry_eq]
  generalize (lg_sl ([.ref g0]) ++ List.replicate (1 - (lg_sl ([.ref g0])).length) Slot.unset).toArray = ls at hl ⊢
  have hl : lv_has ls 1 [(0, .ref g0)] := hl
  refine lv_aload_n hx hb dX0_init_0 rfl (lv_at hl 0 rfl) ?_
  refine W.objInit hx hb hown (hts _ (List.mem_cons_of_mem _ mw_26)) (hts _ (List.mem_cons_of_mem _ mw_19)) (hts _ (List.mem_cons_of_mem _ mw_20)) rfl (by rw [hml]; exact hl.1) rfl dX0_init_1 (Nat.le_of_ble_eq_true rfl) (Nat.le_of_ble_eq_true rfl) ?_
  refine W.eq (g2 := F0 m 4 ls []) rfl ?_
  refine lv_aload_n hx hb dX0_init_4 rfl (lv_at hl 0 rfl) ?_
  refine lv_iconst (v := nI 0) hx hb dX0_init_5 (by decide) ?_
  refine va_put (D := D) (ci := 0) (v := .int (nI 0)) (ty := .int) (C := RX0) (T := TX0) (N := 10) hx hb hts mu_X0 tyX0 tyX0_ok nmX0 hown hK hP hD hS 0 rfl rfl 0 (by decide) (hts _ (List.mem_cons_of_mem _ mw_27)) (fun _ h9 => h9) rfl (by decide +kernel) rfl rfl (Nat.le_of_ble_eq_true rfl) dX0_init_6 (fun H locs hP hD hS => ?_)
  have hP : va_P D vwCl [(g0, .inr (0, [.int (nI 0), .int 0, .null, .null, .null, .null, .null, .null, .null, .null]))] H := hP
  have hD : va_D A [(g0, .inr (0, [.int (nI 0), .int 0, .null, .null, .null, .null, .null, .null, .null, .null]))] := hD
  refine lv_aload_n hx hb dX0_init_9 rfl (lv_at hl 0 rfl) ?_
  refine lv_iconst (v := nI 0) hx hb dX0_init_10 (by decide) ?_
  refine va_put (D := D) (ci := 0) (v := .int (nI 0)) (ty := .int) (C := RX0) (T := TX0) (N := 10) hx hb hts mu_X0 tyX0 tyX0_ok nmX0 hown hK hP hD hS 0 rfl rfl 1 (by decide) (hts _ (List.mem_cons_of_mem _ mw_30)) (fun _ h9 => h9) rfl (by decide +kernel) rfl rfl (Nat.le_of_ble_eq_true rfl) dX0_init_11 (fun H locs hP hD hS => ?_)
  have hP : va_P D vwCl [(g0, .inr (0, [.int (nI 0), .int (nI 0), .null, .null, .null, .null, .null, .null, .null, .null]))] H := hP
  have hD : va_D A [(g0, .inr (0, [.int (nI 0), .int (nI 0), .null, .null, .null, .null, .null, .null, .null, .null]))] := hD
  refine lv_aload_n hx hb dX0_init_14 rfl (lv_at hl 0 rfl) ?_
  refine lv_sipush (v := nI 300) hx hb dX0_init_15 (by decide) ?_
  refine rk_newaI hx hb (hts _ (List.mem_cons_of_mem _ mw_63)) hK hP hD hS hA (N := 300) (by decide) (Nat.le_of_ble_eq_true rfl) (Nat.le_of_ble_eq_true rfl) dX0_init_18 (fun q18 H hP hD hS => ?_)
  have hP : va_P D vwCl [(g0, .inr (0, [.int (nI 0), .int (nI 0), .null, .null, .null, .null, .null, .null, .null, .null])), (q18, .inl (cI, 300, .inl (fun _ => 0)))] H := hP
  have hD : va_D A [(g0, .inr (0, [.int (nI 0), .int (nI 0), .null, .null, .null, .null, .null, .null, .null, .null])), (q18, .inl (cI, 300, .inl (fun _ => 0)))] := hD
  refine W.widen (k := 1) (n := 300) (Nat.le_of_ble_eq_true rfl) (Nat.le_of_ble_eq_true rfl) ?_
  refine va_putF (D := D) (ci := 0) (v := .ref q18) (ty := .array .int) (C := RX0) (T := TX0) (N := 10) hx hb hts mu_X0 tyX0 tyX0_ok nmX0 hown hK hP hD hS 0 rfl rfl 2 (by decide) (hts _ (List.mem_cons_of_mem _ mw_32)) (fun _ h9 => h9) rfl hin rfl (by decide +kernel) rfl rfl (Nat.le_of_ble_eq_true rfl) dX0_init_20 (fun H locs hP hD hS => ?_)
  have hP : va_P D vwCl [(g0, .inr (0, [.int (nI 0), .int (nI 0), .ref q18, .null, .null, .null, .null, .null, .null, .null])), (q18, .inl (cI, 300, .inl (fun _ => 0)))] H := hP
  have hD : va_D A [(g0, .inr (0, [.int (nI 0), .int (nI 0), .ref q18, .null, .null, .null, .null, .null, .null, .null])), (q18, .inl (cI, 300, .inl (fun _ => 0)))] := hD
  refine lv_aload_n hx hb dX0_init_23 rfl (lv_at hl 0 rfl) ?_
  refine lv_sipush (v := nI 300) hx hb dX0_init_24 (by decide) ?_
  refine rk_newaI hx hb (hts _ (List.mem_cons_of_mem _ mw_63)) hK hP hD hS hA (N := 300) (by decide) (Nat.le_of_ble_eq_true rfl) (Nat.le_of_ble_eq_true rfl) dX0_init_27 (fun q27 H hP hD hS => ?_)
  have hP : va_P D vwCl [(g0, .inr (0, [.int (nI 0), .int (nI 0), .ref q18, .null, .null, .null, .null, .null, .null, .null])), (q18, .inl (cI, 300, .inl (fun _ => 0))), (q27, .inl (cI, 300, .inl (fun _ => 0)))] H := hP
  have hD : va_D A [(g0, .inr (0, [.int (nI 0), .int (nI 0), .ref q18, .null, .null, .null, .null, .null, .null, .null])), (q18, .inl (cI, 300, .inl (fun _ => 0))), (q27, .inl (cI, 300, .inl (fun _ => 0)))] := hD
  refine W.widen (k := 2) (n := 600) (Nat.le_of_ble_eq_true rfl) (Nat.le_of_ble_eq_true rfl) ?_
  refine va_putF (D := D) (ci := 0) (v := .ref q27) (ty := .array .int) (C := RX0) (T := TX0) (N := 10) hx hb hts mu_X0 tyX0 tyX0_ok nmX0 hown hK hP hD hS 0 rfl rfl 3 (by decide) (hts _ (List.mem_cons_of_mem _ mw_34)) (fun _ h9 => h9) rfl hin rfl (by decide +kernel) rfl rfl (Nat.le_of_ble_eq_true rfl) dX0_init_29 (fun H locs hP hD hS => ?_)
  have hP : va_P D vwCl [(g0, .inr (0, [.int (nI 0), .int (nI 0), .ref q18, .ref q27, .null, .null, .null, .null, .null, .null])), (q18, .inl (cI, 300, .inl (fun _ => 0))), (q27, .inl (cI, 300, .inl (fun _ => 0)))] H := hP
  have hD : va_D A [(g0, .inr (0, [.int (nI 0), .int (nI 0), .ref q18, .ref q27, .null, .null, .null, .null, .null, .null])), (q18, .inl (cI, 300, .inl (fun _ => 0))), (q27, .inl (cI, 300, .inl (fun _ => 0)))] := hD
  refine lv_aload_n hx hb dX0_init_32 rfl (lv_at hl 0 rfl) ?_
  refine lv_sipush (v := nI 300) hx hb dX0_init_33 (by decide) ?_
  refine rk_newaZ hx hb (hts _ (List.mem_cons_of_mem _ mw_64)) hK hP hD hS hA (N := 300) (by decide) (Nat.le_of_ble_eq_true rfl) (Nat.le_of_ble_eq_true rfl) dX0_init_36 (fun q36 H hP hD hS => ?_)
  have hP : va_P D vwCl [(g0, .inr (0, [.int (nI 0), .int (nI 0), .ref q18, .ref q27, .null, .null, .null, .null, .null, .null])), (q18, .inl (cI, 300, .inl (fun _ => 0))), (q27, .inl (cI, 300, .inl (fun _ => 0))), (q36, .inl (cZ, 300, .inl (fun _ => 0)))] H := hP
  have hD : va_D A [(g0, .inr (0, [.int (nI 0), .int (nI 0), .ref q18, .ref q27, .null, .null, .null, .null, .null, .null])), (q18, .inl (cI, 300, .inl (fun _ => 0))), (q27, .inl (cI, 300, .inl (fun _ => 0))), (q36, .inl (cZ, 300, .inl (fun _ => 0)))] := hD
  refine W.widen (k := 3) (n := 900) (Nat.le_of_ble_eq_true rfl) (Nat.le_of_ble_eq_true rfl) ?_
  refine va_putF (D := D) (ci := 0) (v := .ref q36) (ty := .array .boolean) (C := RX0) (T := TX0) (N := 10) hx hb hts mu_X0 tyX0 tyX0_ok nmX0 hown hK hP hD hS 0 rfl rfl 4 (by decide) (hts _ (List.mem_cons_of_mem _ mw_35)) (fun _ h9 => h9) rfl hin rfl (by decide +kernel) rfl rfl (Nat.le_of_ble_eq_true rfl) dX0_init_38 (fun H locs hP hD hS => ?_)
  have hP : va_P D vwCl [(g0, .inr (0, [.int (nI 0), .int (nI 0), .ref q18, .ref q27, .ref q36, .null, .null, .null, .null, .null])), (q18, .inl (cI, 300, .inl (fun _ => 0))), (q27, .inl (cI, 300, .inl (fun _ => 0))), (q36, .inl (cZ, 300, .inl (fun _ => 0)))] H := hP
  have hD : va_D A [(g0, .inr (0, [.int (nI 0), .int (nI 0), .ref q18, .ref q27, .ref q36, .null, .null, .null, .null, .null])), (q18, .inl (cI, 300, .inl (fun _ => 0))), (q27, .inl (cI, 300, .inl (fun _ => 0))), (q36, .inl (cZ, 300, .inl (fun _ => 0)))] := hD
  refine lv_aload_n hx hb dX0_init_41 rfl (lv_at hl 0 rfl) ?_
  refine lv_sipush (v := nI 300) hx hb dX0_init_42 (by decide) ?_
  refine rk_newaJ hx hb (hts _ (List.mem_cons_of_mem _ mw_65)) hK hP hD hS hA (N := 300) (by decide) (Nat.le_of_ble_eq_true rfl) (Nat.le_of_ble_eq_true rfl) dX0_init_45 (fun q45 H hP hD hS => ?_)
  have hP : va_P D vwCl [(g0, .inr (0, [.int (nI 0), .int (nI 0), .ref q18, .ref q27, .ref q36, .null, .null, .null, .null, .null])), (q18, .inl (cI, 300, .inl (fun _ => 0))), (q27, .inl (cI, 300, .inl (fun _ => 0))), (q36, .inl (cZ, 300, .inl (fun _ => 0))), (q45, .inl (cJ, 300, .inr (.inl (fun _ => 0))))] H := hP
  have hD : va_D A [(g0, .inr (0, [.int (nI 0), .int (nI 0), .ref q18, .ref q27, .ref q36, .null, .null, .null, .null, .null])), (q18, .inl (cI, 300, .inl (fun _ => 0))), (q27, .inl (cI, 300, .inl (fun _ => 0))), (q36, .inl (cZ, 300, .inl (fun _ => 0))), (q45, .inl (cJ, 300, .inr (.inl (fun _ => 0))))] := hD
  refine W.widen (k := 4) (n := 1200) (Nat.le_of_ble_eq_true rfl) (Nat.le_of_ble_eq_true rfl) ?_
  refine va_putF (D := D) (ci := 0) (v := .ref q45) (ty := .array .long) (C := RX0) (T := TX0) (N := 10) hx hb hts mu_X0 tyX0 tyX0_ok nmX0 hown hK hP hD hS 0 rfl rfl 5 (by decide) (hts _ (List.mem_cons_of_mem _ mw_36)) (fun _ h9 => h9) rfl hin rfl (by decide +kernel) rfl rfl (Nat.le_of_ble_eq_true rfl) dX0_init_47 (fun H locs hP hD hS => ?_)
  have hP : va_P D vwCl [(g0, .inr (0, [.int (nI 0), .int (nI 0), .ref q18, .ref q27, .ref q36, .ref q45, .null, .null, .null, .null])), (q18, .inl (cI, 300, .inl (fun _ => 0))), (q27, .inl (cI, 300, .inl (fun _ => 0))), (q36, .inl (cZ, 300, .inl (fun _ => 0))), (q45, .inl (cJ, 300, .inr (.inl (fun _ => 0))))] H := hP
  have hD : va_D A [(g0, .inr (0, [.int (nI 0), .int (nI 0), .ref q18, .ref q27, .ref q36, .ref q45, .null, .null, .null, .null])), (q18, .inl (cI, 300, .inl (fun _ => 0))), (q27, .inl (cI, 300, .inl (fun _ => 0))), (q36, .inl (cZ, 300, .inl (fun _ => 0))), (q45, .inl (cJ, 300, .inr (.inl (fun _ => 0))))] := hD
  refine lv_aload_n hx hb dX0_init_50 rfl (lv_at hl 0 rfl) ?_
  refine lv_sipush (v := nI 300) hx hb dX0_init_51 (by decide) ?_
  refine rk_newaI hx hb (hts _ (List.mem_cons_of_mem _ mw_63)) hK hP hD hS hA (N := 300) (by decide) (Nat.le_of_ble_eq_true rfl) (Nat.le_of_ble_eq_true rfl) dX0_init_54 (fun q54 H hP hD hS => ?_)
  have hP : va_P D vwCl [(g0, .inr (0, [.int (nI 0), .int (nI 0), .ref q18, .ref q27, .ref q36, .ref q45, .null, .null, .null, .null])), (q18, .inl (cI, 300, .inl (fun _ => 0))), (q27, .inl (cI, 300, .inl (fun _ => 0))), (q36, .inl (cZ, 300, .inl (fun _ => 0))), (q45, .inl (cJ, 300, .inr (.inl (fun _ => 0)))), (q54, .inl (cI, 300, .inl (fun _ => 0)))] H := hP
  have hD : va_D A [(g0, .inr (0, [.int (nI 0), .int (nI 0), .ref q18, .ref q27, .ref q36, .ref q45, .null, .null, .null, .null])), (q18, .inl (cI, 300, .inl (fun _ => 0))), (q27, .inl (cI, 300, .inl (fun _ => 0))), (q36, .inl (cZ, 300, .inl (fun _ => 0))), (q45, .inl (cJ, 300, .inr (.inl (fun _ => 0)))), (q54, .inl (cI, 300, .inl (fun _ => 0)))] := hD
  refine W.widen (k := 5) (n := 1500) (Nat.le_of_ble_eq_true rfl) (Nat.le_of_ble_eq_true rfl) ?_
  refine va_putF (D := D) (ci := 0) (v := .ref q54) (ty := .array .int) (C := RX0) (T := TX0) (N := 10) hx hb hts mu_X0 tyX0 tyX0_ok nmX0 hown hK hP hD hS 0 rfl rfl 6 (by decide) (hts _ (List.mem_cons_of_mem _ mw_38)) (fun _ h9 => h9) rfl hin rfl (by decide +kernel) rfl rfl (Nat.le_of_ble_eq_true rfl) dX0_init_56 (fun H locs hP hD hS => ?_)
  have hP : va_P D vwCl [(g0, .inr (0, [.int (nI 0), .int (nI 0), .ref q18, .ref q27, .ref q36, .ref q45, .ref q54, .null, .null, .null])), (q18, .inl (cI, 300, .inl (fun _ => 0))), (q27, .inl (cI, 300, .inl (fun _ => 0))), (q36, .inl (cZ, 300, .inl (fun _ => 0))), (q45, .inl (cJ, 300, .inr (.inl (fun _ => 0)))), (q54, .inl (cI, 300, .inl (fun _ => 0)))] H := hP
  have hD : va_D A [(g0, .inr (0, [.int (nI 0), .int (nI 0), .ref q18, .ref q27, .ref q36, .ref q45, .ref q54, .null, .null, .null])), (q18, .inl (cI, 300, .inl (fun _ => 0))), (q27, .inl (cI, 300, .inl (fun _ => 0))), (q36, .inl (cZ, 300, .inl (fun _ => 0))), (q45, .inl (cJ, 300, .inr (.inl (fun _ => 0)))), (q54, .inl (cI, 300, .inl (fun _ => 0)))] := hD
  refine lv_aload_n hx hb dX0_init_59 rfl (lv_at hl 0 rfl) ?_
  refine lv_sipush (v := nI 300) hx hb dX0_init_60 (by decide) ?_
  refine rk_newaI hx hb (hts _ (List.mem_cons_of_mem _ mw_63)) hK hP hD hS hA (N := 300) (by decide) (Nat.le_of_ble_eq_true rfl) (Nat.le_of_ble_eq_true rfl) dX0_init_63 (fun q63 H hP hD hS => ?_)
  have hP : va_P D vwCl [(g0, .inr (0, [.int (nI 0), .int (nI 0), .ref q18, .ref q27, .ref q36, .ref q45, .ref q54, .null, .null, .null])), (q18, .inl (cI, 300, .inl (fun _ => 0))), (q27, .inl (cI, 300, .inl (fun _ => 0))), (q36, .inl (cZ, 300, .inl (fun _ => 0))), (q45, .inl (cJ, 300, .inr (.inl (fun _ => 0)))), (q54, .inl (cI, 300, .inl (fun _ => 0))), (q63, .inl (cI, 300, .inl (fun _ => 0)))] H := hP
  have hD : va_D A [(g0, .inr (0, [.int (nI 0), .int (nI 0), .ref q18, .ref q27, .ref q36, .ref q45, .ref q54, .null, .null, .null])), (q18, .inl (cI, 300, .inl (fun _ => 0))), (q27, .inl (cI, 300, .inl (fun _ => 0))), (q36, .inl (cZ, 300, .inl (fun _ => 0))), (q45, .inl (cJ, 300, .inr (.inl (fun _ => 0)))), (q54, .inl (cI, 300, .inl (fun _ => 0))), (q63, .inl (cI, 300, .inl (fun _ => 0)))] := hD
  refine W.widen (k := 6) (n := 1800) (Nat.le_of_ble_eq_true rfl) (Nat.le_of_ble_eq_true rfl) ?_
  refine va_putF (D := D) (ci := 0) (v := .ref q63) (ty := .array .int) (C := RX0) (T := TX0) (N := 10) hx hb hts mu_X0 tyX0 tyX0_ok nmX0 hown hK hP hD hS 0 rfl rfl 7 (by decide) (hts _ (List.mem_cons_of_mem _ mw_39)) (fun _ h9 => h9) rfl hin rfl (by decide +kernel) rfl rfl (Nat.le_of_ble_eq_true rfl) dX0_init_65 (fun H locs hP hD hS => ?_)
  have hP : va_P D vwCl [(g0, .inr (0, [.int (nI 0), .int (nI 0), .ref q18, .ref q27, .ref q36, .ref q45, .ref q54, .ref q63, .null, .null])), (q18, .inl (cI, 300, .inl (fun _ => 0))), (q27, .inl (cI, 300, .inl (fun _ => 0))), (q36, .inl (cZ, 300, .inl (fun _ => 0))), (q45, .inl (cJ, 300, .inr (.inl (fun _ => 0)))), (q54, .inl (cI, 300, .inl (fun _ => 0))), (q63, .inl (cI, 300, .inl (fun _ => 0)))] H := hP
  have hD : va_D A [(g0, .inr (0, [.int (nI 0), .int (nI 0), .ref q18, .ref q27, .ref q36, .ref q45, .ref q54, .ref q63, .null, .null])), (q18, .inl (cI, 300, .inl (fun _ => 0))), (q27, .inl (cI, 300, .inl (fun _ => 0))), (q36, .inl (cZ, 300, .inl (fun _ => 0))), (q45, .inl (cJ, 300, .inr (.inl (fun _ => 0)))), (q54, .inl (cI, 300, .inl (fun _ => 0))), (q63, .inl (cI, 300, .inl (fun _ => 0)))] := hD
  refine lv_aload_n hx hb dX0_init_68 rfl (lv_at hl 0 rfl) ?_
  refine lv_sipush (v := nI 300) hx hb dX0_init_69 (by decide) ?_
  refine rk_newaI hx hb (hts _ (List.mem_cons_of_mem _ mw_63)) hK hP hD hS hA (N := 300) (by decide) (Nat.le_of_ble_eq_true rfl) (Nat.le_of_ble_eq_true rfl) dX0_init_72 (fun q72 H hP hD hS => ?_)
  have hP : va_P D vwCl [(g0, .inr (0, [.int (nI 0), .int (nI 0), .ref q18, .ref q27, .ref q36, .ref q45, .ref q54, .ref q63, .null, .null])), (q18, .inl (cI, 300, .inl (fun _ => 0))), (q27, .inl (cI, 300, .inl (fun _ => 0))), (q36, .inl (cZ, 300, .inl (fun _ => 0))), (q45, .inl (cJ, 300, .inr (.inl (fun _ => 0)))), (q54, .inl (cI, 300, .inl (fun _ => 0))), (q63, .inl (cI, 300, .inl (fun _ => 0))), (q72, .inl (cI, 300, .inl (fun _ => 0)))] H := hP
  have hD : va_D A [(g0, .inr (0, [.int (nI 0), .int (nI 0), .ref q18, .ref q27, .ref q36, .ref q45, .ref q54, .ref q63, .null, .null])), (q18, .inl (cI, 300, .inl (fun _ => 0))), (q27, .inl (cI, 300, .inl (fun _ => 0))), (q36, .inl (cZ, 300, .inl (fun _ => 0))), (q45, .inl (cJ, 300, .inr (.inl (fun _ => 0)))), (q54, .inl (cI, 300, .inl (fun _ => 0))), (q63, .inl (cI, 300, .inl (fun _ => 0))), (q72, .inl (cI, 300, .inl (fun _ => 0)))] := hD
  refine W.widen (k := 7) (n := 2100) (Nat.le_of_ble_eq_true rfl) (Nat.le_of_ble_eq_true rfl) ?_
  refine va_putF (D := D) (ci := 0) (v := .ref q72) (ty := .array .int) (C := RX0) (T := TX0) (N := 10) hx hb hts mu_X0 tyX0 tyX0_ok nmX0 hown hK hP hD hS 0 rfl rfl 8 (by decide) (hts _ (List.mem_cons_of_mem _ mw_40)) (fun _ h9 => h9) rfl hin rfl (by decide +kernel) rfl rfl (Nat.le_of_ble_eq_true rfl) dX0_init_74 (fun H locs hP hD hS => ?_)
  have hP : va_P D vwCl [(g0, .inr (0, [.int (nI 0), .int (nI 0), .ref q18, .ref q27, .ref q36, .ref q45, .ref q54, .ref q63, .ref q72, .null])), (q18, .inl (cI, 300, .inl (fun _ => 0))), (q27, .inl (cI, 300, .inl (fun _ => 0))), (q36, .inl (cZ, 300, .inl (fun _ => 0))), (q45, .inl (cJ, 300, .inr (.inl (fun _ => 0)))), (q54, .inl (cI, 300, .inl (fun _ => 0))), (q63, .inl (cI, 300, .inl (fun _ => 0))), (q72, .inl (cI, 300, .inl (fun _ => 0)))] H := hP
  have hD : va_D A [(g0, .inr (0, [.int (nI 0), .int (nI 0), .ref q18, .ref q27, .ref q36, .ref q45, .ref q54, .ref q63, .ref q72, .null])), (q18, .inl (cI, 300, .inl (fun _ => 0))), (q27, .inl (cI, 300, .inl (fun _ => 0))), (q36, .inl (cZ, 300, .inl (fun _ => 0))), (q45, .inl (cJ, 300, .inr (.inl (fun _ => 0)))), (q54, .inl (cI, 300, .inl (fun _ => 0))), (q63, .inl (cI, 300, .inl (fun _ => 0))), (q72, .inl (cI, 300, .inl (fun _ => 0)))] := hD
  refine lv_aload_n hx hb dX0_init_77 rfl (lv_at hl 0 rfl) ?_
  refine lv_sipush (v := nI 300) hx hb dX0_init_78 (by decide) ?_
  refine rk_newaI hx hb (hts _ (List.mem_cons_of_mem _ mw_63)) hK hP hD hS hA (N := 300) (by decide) (Nat.le_of_ble_eq_true rfl) (Nat.le_of_ble_eq_true rfl) dX0_init_81 (fun q81 H hP hD hS => ?_)
  have hP : va_P D vwCl [(g0, .inr (0, [.int (nI 0), .int (nI 0), .ref q18, .ref q27, .ref q36, .ref q45, .ref q54, .ref q63, .ref q72, .null])), (q18, .inl (cI, 300, .inl (fun _ => 0))), (q27, .inl (cI, 300, .inl (fun _ => 0))), (q36, .inl (cZ, 300, .inl (fun _ => 0))), (q45, .inl (cJ, 300, .inr (.inl (fun _ => 0)))), (q54, .inl (cI, 300, .inl (fun _ => 0))), (q63, .inl (cI, 300, .inl (fun _ => 0))), (q72, .inl (cI, 300, .inl (fun _ => 0))), (q81, .inl (cI, 300, .inl (fun _ => 0)))] H := hP
  have hD : va_D A [(g0, .inr (0, [.int (nI 0), .int (nI 0), .ref q18, .ref q27, .ref q36, .ref q45, .ref q54, .ref q63, .ref q72, .null])), (q18, .inl (cI, 300, .inl (fun _ => 0))), (q27, .inl (cI, 300, .inl (fun _ => 0))), (q36, .inl (cZ, 300, .inl (fun _ => 0))), (q45, .inl (cJ, 300, .inr (.inl (fun _ => 0)))), (q54, .inl (cI, 300, .inl (fun _ => 0))), (q63, .inl (cI, 300, .inl (fun _ => 0))), (q72, .inl (cI, 300, .inl (fun _ => 0))), (q81, .inl (cI, 300, .inl (fun _ => 0)))] := hD
  refine W.widen (k := 8) (n := 2400) (Nat.le_of_ble_eq_true rfl) (Nat.le_of_ble_eq_true rfl) ?_
  refine va_putF (D := D) (ci := 0) (v := .ref q81) (ty := .array .int) (C := RX0) (T := TX0) (N := 10) hx hb hts mu_X0 tyX0 tyX0_ok nmX0 hown hK hP hD hS 0 rfl rfl 9 (by decide) (hts _ (List.mem_cons_of_mem _ mw_41)) (fun _ h9 => h9) rfl hin rfl (by decide +kernel) rfl rfl (Nat.le_of_ble_eq_true rfl) dX0_init_83 (fun H locs hP hD hS => ?_)
  have hP : va_P D vwCl [(g0, .inr (0, [.int (nI 0), .int (nI 0), .ref q18, .ref q27, .ref q36, .ref q45, .ref q54, .ref q63, .ref q72, .ref q81])), (q18, .inl (cI, 300, .inl (fun _ => 0))), (q27, .inl (cI, 300, .inl (fun _ => 0))), (q36, .inl (cZ, 300, .inl (fun _ => 0))), (q45, .inl (cJ, 300, .inr (.inl (fun _ => 0)))), (q54, .inl (cI, 300, .inl (fun _ => 0))), (q63, .inl (cI, 300, .inl (fun _ => 0))), (q72, .inl (cI, 300, .inl (fun _ => 0))), (q81, .inl (cI, 300, .inl (fun _ => 0)))] H := hP
  have hD : va_D A [(g0, .inr (0, [.int (nI 0), .int (nI 0), .ref q18, .ref q27, .ref q36, .ref q45, .ref q54, .ref q63, .ref q72, .ref q81])), (q18, .inl (cI, 300, .inl (fun _ => 0))), (q27, .inl (cI, 300, .inl (fun _ => 0))), (q36, .inl (cZ, 300, .inl (fun _ => 0))), (q45, .inl (cJ, 300, .inr (.inl (fun _ => 0)))), (q54, .inl (cI, 300, .inl (fun _ => 0))), (q63, .inl (cI, 300, .inl (fun _ => 0))), (q72, .inl (cI, 300, .inl (fun _ => 0))), (q81, .inl (cI, 300, .inl (fun _ => 0)))] := hD
  exact rw_retv (u := (q18, q27, q36, q45, q54, q63, q72, q81)) hAe (hP) (hD) hS hK (trivial) (Nat.le_of_ble_eq_true rfl) (Nat.le_of_ble_eq_true rfl) hx hb hr hlocks dX0_init_86
end
section
theorem rem_of {r n : Nat} {kf rf sf : Nat → Int32} {vf : Nat → Int64} {wf cf pf bf : Nat → Int32} {key : Int32} {bn : Nat → Nat} {u : Nat × (Nat → Int32) × (Nat → Int32) × (Nat → Int32) × (Nat → Int32)} (hbn : bnk (n, kf, rf, sf, vf, wf, cf, pf, bf) bn)
    (h : (u = (n, kf, rf, pf, bf) ∧ ∀ j, j < n → ¬ (kf j = key ∧ hld sf rf pf j (nI r))) ∨ (u.1 = n + 1 ∧ u.2.1 = upd kf n key ∧ u.2.2.1 = upd rf n (nI r) ∧ srt (upd kf n key) bn u.2.2.2.2 n ∧ ∃ j, j < n ∧ (kf j = key ∧ hld sf rf pf j (nI r)) ∧ u.2.2.2.1 = upd (upd pf j (nI r)) n (nI 301))) : remR r key (n, kf, rf, sf, vf, wf, cf, pf, bf) (u.1, u.2.1, u.2.2.1, sf, vf, wf, cf, u.2.2.2.1, u.2.2.2.2) := by
  rcases h with ⟨rfl, h⟩ | ⟨h1, h2, h3, h4, h5⟩
  · exact Or.inl ⟨rfl, h⟩
  · exact Or.inr ⟨h1, h2, h3, rfl, rfl, rfl, rfl, ⟨bn, hbn, h4⟩, h5⟩
set_option maxHeartbeats 4000000 in
set_option maxRecDepth 100000 in
theorem c_X2_append (l : Launch) (D : va_G) (cI cJ cZ : ClassId) (sz : Nat) (t0 tk tw tr tb tz : Nat) (ta tv tq : Nat → Int32) (tl : Nat → Int64) (htz : tz < 20) (key w q : Int32) (v : Int64) : Met l yX2_append (Cond.code yX2_append cX2_append 6 none :: wB) ({ frames := 0, cells := 0, slots := 0, locals := 0 } : Room) (rw_Pc D cI cJ cZ sz [.ref t0, .int key, .int w, .int q, .long v] [(t0, .inr (2, [.int (nI tz), .ref tk, .ref tw, .ref tr, .ref tb])), (tk, .inl (cI, 20, .inl ta)), (tw, .inl (cI, 20, .inl tv)), (tr, .inl (cI, 20, .inl tq)), (tb, .inl (cJ, 20, .inr (.inl tl)))]) (rw_Qv (S := Unit) D cI cJ cZ sz [(t0, .inr (2, [.int (nI tz), .ref tk, .ref tw, .ref tr, .ref tb])), (tk, .inl (cI, 20, .inl ta)), (tw, .inl (cI, 20, .inl tv)), (tr, .inl (cI, 20, .inl tq)), (tb, .inl (cJ, 20, .inr (.inl tl)))] (fun u => [(t0, .inr (2, [.int (nI (tz + 1)), .ref tk, .ref tw, .ref tr, .ref tb])), (tk, .inl (cI, 20, .inl (upd ta tz key))), (tw, .inl (cI, 20, .inl (upd tv tz w))), (tr, .inl (cI, 20, .inl (upd tq tz q))), (tb, .inl (cJ, 20, .inr (.inl (vp_updL tl tz v))))]) (fun _ => True)) 0 0 (va_A [(t0, .inr (2, [.int (nI tz), .ref tk, .ref tw, .ref tr, .ref tb])), (tk, .inl (cI, 20, .inl ta)), (tw, .inl (cI, 20, .inl tv)), (tr, .inl (cI, 20, .inl tq)), (tb, .inl (cJ, 20, .inr (.inl tl)))] sz) := by
  refine Met.ofW (cc := cX2_append) (maxL := 6) (ret := none) (by decide) rfl ?_
  intro p e s m args below meth c s₁ B hml hv
  obtain ⟨rfl, hsz, hP, hK, hD0⟩ := hv
  have hx := B.exec
  have hb := B.bytes
  have hr := B.returns
  have hts := atoms_spec (ws := (Cond.code yX2_append cX2_append 6 none :: wB)) B.pre
  have hown : s.vm.findClass RX2 = some m.cls := findClass_of_methodNamed B.named
  have hlocks := B.notSynchronized
  subst hsz
  have hD := hD0.self (sz := s.heap.size)
  obtain ⟨A, hAe⟩ : ∃ A, A = va_A [(t0, .inr (2, [.int (nI tz), .ref tk, .ref tw, .ref tr, .ref tb])), (tk, .inl (cI, 20, .inl ta)), (tw, .inl (cI, 20, .inl tv)), (tr, .inl (cI, 20, .inl tq)), (tb, .inl (cJ, 20, .inr (.inl tl)))] s.heap.size := ⟨_, rfl⟩
  rw [← hAe] at hD
  have hA : ∀ q : Nat, s.heap.size ≤ q → A q := fun q h => by rw [hAe]; exact Or.inr h
  have hS : va_S A s.heap s.heap [] := va_S.rf
  have hl := lv_entry ([.ref t0, .int key, .int w, .int q, .long v]) (n := 6) (Nat.le_of_ble_eq_true rfl)
  rw [lg_entry_eq]
  generalize (lg_sl ([.ref t0, .int key, .int w, .int q, .long v]) ++ List.replicate (6 - (lg_sl ([.ref t0, .int key, .int w, .int q, .long v])).length) Slot.unset).toArray = ls at hl ⊢
  have hl : lv_has ls 6 [(0, .ref t0), (1, .int key), (2, .int w), (3, .int q), (4, .long v)] := hl
  refine lv_aload_n hx hb dX2_append_0 rfl (lv_at hl 0 rfl) ?_
  refine va_get (D := D) (ci := 2) (v := .ref tk) (C := RX2) (T := TX2) (N := 5) hx hb hts mu_X2 hown hK hP 0 rfl rfl 1 (by decide) (hts _ (List.mem_cons_of_mem _ mw_74)) (fun _ h9 => h9) rfl dX2_append_1 ?_
  refine lv_aload_n hx hb dX2_append_4 rfl (lv_at hl 0 rfl) ?_
  refine va_get (D := D) (ci := 2) (v := .int (nI tz)) (C := RX2) (T := TX2) (N := 5) hx hb hts mu_X2 hown hK hP 0 rfl rfl 0 (by decide) (hts _ (List.mem_cons_of_mem _ mw_72)) (fun _ h9 => h9) rfl dX2_append_5 ?_
  refine lv_iload_n hx hb dX2_append_8 rfl (lv_at hl 1 rfl) ?_
  refine rk_iast hx hb hK hP hD hS 1 0 rfl rfl (i := tz) (by omega) (by decide) dX2_append_9 (fun H locs hP hD hS => ?_)
  have hP : va_P D vwCl [(t0, .inr (2, [.int (nI tz), .ref tk, .ref tw, .ref tr, .ref tb])), (tk, .inl (cI, 20, .inl (upd ta tz key))), (tw, .inl (cI, 20, .inl tv)), (tr, .inl (cI, 20, .inl tq)), (tb, .inl (cJ, 20, .inr (.inl tl)))] H := hP
  have hD : va_D A [(t0, .inr (2, [.int (nI tz), .ref tk, .ref tw, .ref tr, .ref tb])), (tk, .inl (cI, 20, .inl (upd ta tz key))), (tw, .inl (cI, 20, .inl tv)), (tr, .inl (cI, 20, .inl tq)), (tb, .inl (cJ, 20, .inr (.inl tl)))] := hD
  refine lv_aload_n hx hb dX2_append_10 rfl (lv_at hl 0 rfl) ?_
  refine va_get (D := D) (ci := 2) (v := .ref tw) (C := RX2) (T := TX2) (N := 5) hx hb hts mu_X2 hown hK hP 0 rfl rfl 2 (by decide) (hts _ (List.mem_cons_of_mem _ mw_75)) (fun _ h9 => h9) rfl dX2_append_11 ?_
  refine lv_aload_n hx hb dX2_append_14 rfl (lv_at hl 0 rfl) ?_
  refine va_get (D := D) (ci := 2) (v := .int (nI tz)) (C := RX2) (T := TX2) (N := 5) hx hb hts mu_X2 hown hK hP 0 rfl rfl 0 (by decide) (hts _ (List.mem_cons_of_mem _ mw_72)) (fun _ h9 => h9) rfl dX2_append_15 ?_
  refine lv_iload_n hx hb dX2_append_18 rfl (lv_at hl 2 rfl) ?_
  refine rk_iast hx hb hK hP hD hS 2 0 rfl rfl (i := tz) (by omega) (by decide) dX2_append_19 (fun H locs hP hD hS => ?_)
  have hP : va_P D vwCl [(t0, .inr (2, [.int (nI tz), .ref tk, .ref tw, .ref tr, .ref tb])), (tk, .inl (cI, 20, .inl (upd ta tz key))), (tw, .inl (cI, 20, .inl (upd tv tz w))), (tr, .inl (cI, 20, .inl tq)), (tb, .inl (cJ, 20, .inr (.inl tl)))] H := hP
  have hD : va_D A [(t0, .inr (2, [.int (nI tz), .ref tk, .ref tw, .ref tr, .ref tb])), (tk, .inl (cI, 20, .inl (upd ta tz key))), (tw, .inl (cI, 20, .inl (upd tv tz w))), (tr, .inl (cI, 20, .inl tq)), (tb, .inl (cJ, 20, .inr (.inl tl)))] := hD
  refine lv_aload_n hx hb dX2_append_20 rfl (lv_at hl 0 rfl) ?_
  refine va_get (D := D) (ci := 2) (v := .ref tr) (C := RX2) (T := TX2) (N := 5) hx hb hts mu_X2 hown hK hP 0 rfl rfl 3 (by decide) (hts _ (List.mem_cons_of_mem _ mw_76)) (fun _ h9 => h9) rfl dX2_append_21 ?_
  refine lv_aload_n hx hb dX2_append_24 rfl (lv_at hl 0 rfl) ?_
  refine va_get (D := D) (ci := 2) (v := .int (nI tz)) (C := RX2) (T := TX2) (N := 5) hx hb hts mu_X2 hown hK hP 0 rfl rfl 0 (by decide) (hts _ (List.mem_cons_of_mem _ mw_72)) (fun _ h9 => h9) rfl dX2_append_25 ?_
  refine lv_iload_n hx hb dX2_append_28 rfl (lv_at hl 3 rfl) ?_
  refine rk_iast hx hb hK hP hD hS 3 0 rfl rfl (i := tz) (by omega) (by decide) dX2_append_29 (fun H locs hP hD hS => ?_)
  have hP : va_P D vwCl [(t0, .inr (2, [.int (nI tz), .ref tk, .ref tw, .ref tr, .ref tb])), (tk, .inl (cI, 20, .inl (upd ta tz key))), (tw, .inl (cI, 20, .inl (upd tv tz w))), (tr, .inl (cI, 20, .inl (upd tq tz q))), (tb, .inl (cJ, 20, .inr (.inl tl)))] H := hP
  have hD : va_D A [(t0, .inr (2, [.int (nI tz), .ref tk, .ref tw, .ref tr, .ref tb])), (tk, .inl (cI, 20, .inl (upd ta tz key))), (tw, .inl (cI, 20, .inl (upd tv tz w))), (tr, .inl (cI, 20, .inl (upd tq tz q))), (tb, .inl (cJ, 20, .inr (.inl tl)))] := hD
  refine lv_aload_n hx hb dX2_append_30 rfl (lv_at hl 0 rfl) ?_
  refine va_get (D := D) (ci := 2) (v := .ref tb) (C := RX2) (T := TX2) (N := 5) hx hb hts mu_X2 hown hK hP 0 rfl rfl 4 (by decide) (hts _ (List.mem_cons_of_mem _ mw_77)) (fun _ h9 => h9) rfl dX2_append_31 ?_
  refine lv_aload_n hx hb dX2_append_34 rfl (lv_at hl 0 rfl) ?_
  refine va_get (D := D) (ci := 2) (v := .int (nI tz)) (C := RX2) (T := TX2) (N := 5) hx hb hts mu_X2 hown hK hP 0 rfl rfl 0 (by decide) (hts _ (List.mem_cons_of_mem _ mw_72)) (fun _ h9 => h9) rfl dX2_append_35 ?_
  refine lv_lload hx hb dX2_append_38 (lv_at hl 4 rfl) ?_
  refine rk_last hx hb hK hP hD hS 4 1 rfl rfl (i := tz) (by omega) (by decide) dX2_append_40 (fun H locs hP hD hS => ?_)
  have hP : va_P D vwCl [(t0, .inr (2, [.int (nI tz), .ref tk, .ref tw, .ref tr, .ref tb])), (tk, .inl (cI, 20, .inl (upd ta tz key))), (tw, .inl (cI, 20, .inl (upd tv tz w))), (tr, .inl (cI, 20, .inl (upd tq tz q))), (tb, .inl (cJ, 20, .inr (.inl (vp_updL tl tz v))))] H := hP
  have hD : va_D A [(t0, .inr (2, [.int (nI tz), .ref tk, .ref tw, .ref tr, .ref tb])), (tk, .inl (cI, 20, .inl (upd ta tz key))), (tw, .inl (cI, 20, .inl (upd tv tz w))), (tr, .inl (cI, 20, .inl (upd tq tz q))), (tb, .inl (cJ, 20, .inr (.inl (vp_updL tl tz v))))] := hD
  refine lv_aload_n hx hb dX2_append_41 rfl (lv_at hl 0 rfl) ?_
  refine lv_dup hx hb dX2_append_42 rfl ?_
  refine va_get (D := D) (ci := 2) (v := .int (nI tz)) (C := RX2) (T := TX2) (N := 5) hx hb hts mu_X2 hown hK hP 0 rfl rfl 0 (by decide) (hts _ (List.mem_cons_of_mem _ mw_72)) (fun _ h9 => h9) rfl dX2_append_43 ?_
  refine lv_iconst (v := nI 1) hx hb dX2_append_46 (by decide) ?_
  refine rk_iadd hx hb dX2_append_47 ?_
  refine va_put (D := D) (ci := 2) (v := .int (nI (tz + 1))) (ty := .int) (C := RX2) (T := TX2) (N := 5) hx hb hts mu_X2 tyX2 tyX2_ok nmX2 hown hK hP hD hS 0 rfl rfl 0 (by decide) (hts _ (List.mem_cons_of_mem _ mw_72)) (fun _ h9 => h9) rfl (by decide +kernel) rfl rfl (Nat.le_of_ble_eq_true rfl) dX2_append_48 (fun H locs hP hD hS => ?_)
  have hP : va_P D vwCl [(t0, .inr (2, [.int (nI (tz + 1)), .ref tk, .ref tw, .ref tr, .ref tb])), (tk, .inl (cI, 20, .inl (upd ta tz key))), (tw, .inl (cI, 20, .inl (upd tv tz w))), (tr, .inl (cI, 20, .inl (upd tq tz q))), (tb, .inl (cJ, 20, .inr (.inl (vp_updL tl tz v))))] H := hP
  have hD : va_D A [(t0, .inr (2, [.int (nI (tz + 1)), .ref tk, .ref tw, .ref tr, .ref tb])), (tk, .inl (cI, 20, .inl (upd ta tz key))), (tw, .inl (cI, 20, .inl (upd tv tz w))), (tr, .inl (cI, 20, .inl (upd tq tz q))), (tb, .inl (cJ, 20, .inr (.inl (vp_updL tl tz v))))] := hD
  exact rw_retv (u := ()) hAe (hP) (hD) hS hK (trivial) (Nat.le_of_ble_eq_true rfl) (Nat.le_of_ble_eq_true rfl) hx hb hr hlocks dX2_append_51
set_option maxHeartbeats 4000000 in
set_option maxRecDepth 100000 in
theorem c_X2_clear (l : Launch) (D : va_G) (cI cJ cZ : ClassId) (sz : Nat) (t0 tk tw tr tb tz : Nat) (ta tv tq : Nat → Int32) (tl : Nat → Int64) : Met l yX2_clear (Cond.code yX2_clear cX2_clear 1 none :: wB) ({ frames := 0, cells := 0, slots := 0, locals := 0 } : Room) (rw_Pc D cI cJ cZ sz [.ref t0] [(t0, .inr (2, [.int (nI tz), .ref tk, .ref tw, .ref tr, .ref tb])), (tk, .inl (cI, 20, .inl ta)), (tw, .inl (cI, 20, .inl tv)), (tr, .inl (cI, 20, .inl tq)), (tb, .inl (cJ, 20, .inr (.inl tl)))]) (rw_Qv (S := Unit) D cI cJ cZ sz [(t0, .inr (2, [.int (nI tz), .ref tk, .ref tw, .ref tr, .ref tb])), (tk, .inl (cI, 20, .inl ta)), (tw, .inl (cI, 20, .inl tv)), (tr, .inl (cI, 20, .inl tq)), (tb, .inl (cJ, 20, .inr (.inl tl)))] (fun u => [(t0, .inr (2, [.int (nI 0), .ref tk, .ref tw, .ref tr, .ref tb])), (tk, .inl (cI, 20, .inl ta)), (tw, .inl (cI, 20, .inl tv)), (tr, .inl (cI, 20, .inl tq)), (tb, .inl (cJ, 20, .inr (.inl tl)))]) (fun _ => True)) 0 0 (va_A [(t0, .inr (2, [.int (nI tz), .ref tk, .ref tw, .ref tr, .ref tb])), (tk, .inl (cI, 20, .inl ta)), (tw, .inl (cI, 20, .inl tv)), (tr, .inl (cI, 20, .inl tq)), (tb, .inl (cJ, 20, .inr (.inl tl)))] sz) := by
  refine Met.ofW (cc := cX2_clear) (maxL := 1) (ret := none) (by decide) rfl ?_
  intro p e s m args below meth c s₁ B hml hv
  obtain ⟨rfl, hsz, hP, hK, hD0⟩ := hv
  have hx := B.exec
  have hb := B.bytes
  have hr := B.returns
  have hts := atoms_spec (ws := (Cond.code yX2_clear cX2_clear 1 none :: wB)) B.pre
  have hown : s.vm.findClass RX2 = some m.cls := findClass_of_methodNamed B.named
  have hlocks := B.notSynchronized
  subst hsz
  have hD := hD0.self (sz := s.heap.size)
  obtain ⟨A, hAe⟩ : ∃ A, A = va_A [(t0, .inr (2, [.int (nI tz), .ref tk, .ref tw, .ref tr, .ref tb])), (tk, .inl (cI, 20, .inl ta)), (tw, .inl (cI, 20, .inl tv)), (tr, .inl (cI, 20, .inl tq)), (tb, .inl (cJ, 20, .inr (.inl tl)))] s.heap.size := ⟨_, rfl⟩
  rw [← hAe] at hD
  have hA : ∀ q : Nat, s.heap.size ≤ q → A q := fun q h => by rw [hAe]; exact Or.inr h
  have hS : va_S A s.heap s.heap [] := va_S.rf
  have hl := lv_entry ([.ref t0]) (n := 1) (Nat.le_of_ble_eq_true rfl)
  rw [lg_entry_eq]
  generalize (lg_sl ([.ref t0]) ++ List.replicate (1 - (lg_sl ([.ref t0])).length) Slot.unset).toArray = ls at hl ⊢
  have hl : lv_has ls 1 [(0, .ref t0)] := hl
  refine lv_aload_n hx hb dX2_clear_0 rfl (lv_at hl 0 rfl) ?_
  refine lv_iconst (v := nI 0) hx hb dX2_clear_1 (by decide) ?_
  refine va_put (D := D) (ci := 2) (v := .int (nI 0)) (ty := .int) (C := RX2) (T := TX2) (N := 5) hx hb hts mu_X2 tyX2 tyX2_ok nmX2 hown hK hP hD hS 0 rfl rfl 0 (by decide) (hts _ (List.mem_cons_of_mem _ mw_72)) (fun _ h9 => h9) rfl (by decide +kernel) rfl rfl (Nat.le_of_ble_eq_true rfl) dX2_clear_2 (fun H locs hP hD hS => ?_)
  have hP : va_P D vwCl [(t0, .inr (2, [.int (nI 0), .ref tk, .ref tw, .ref tr, .ref tb])), (tk, .inl (cI, 20, .inl ta)), (tw, .inl (cI, 20, .inl tv)), (tr, .inl (cI, 20, .inl tq)), (tb, .inl (cJ, 20, .inr (.inl tl)))] H := hP
  have hD : va_D A [(t0, .inr (2, [.int (nI 0), .ref tk, .ref tw, .ref tr, .ref tb])), (tk, .inl (cI, 20, .inl ta)), (tw, .inl (cI, 20, .inl tv)), (tr, .inl (cI, 20, .inl tq)), (tb, .inl (cJ, 20, .inr (.inl tl)))] := hD
  exact rw_retv (u := ()) hAe (hP) (hD) hS hK (trivial) (Nat.le_of_ble_eq_true rfl) (Nat.le_of_ble_eq_true rfl) hx hb hr hlocks dX2_clear_5
set_option maxHeartbeats 4000000 in
set_option maxRecDepth 100000 in
theorem c_X2_holds (l : Launch) (D : va_G) (cI cJ cZ : ClassId) (t0 tk tw tr tb tz : Nat) (ta tv tq : Nat → Int32) (tl : Nat → Int64) (i : Nat) (hi : i < 20) (h : Int64) : Met l yX2_holds (Cond.code yX2_holds cX2_holds 4 (some .boolean) :: wB) ({ frames := 0, cells := 0, slots := 0, locals := 0 } : Room) (ro_Pc D cI cJ cZ [.ref t0, .int (nI i), .long h] [(t0, .inr (2, [.int (nI tz), .ref tk, .ref tw, .ref tr, .ref tb])), (tk, .inl (cI, 20, .inl ta)), (tw, .inl (cI, 20, .inl tv)), (tr, .inl (cI, 20, .inl tq)), (tb, .inl (cJ, 20, .inr (.inl tl)))]) (vp_Si (fun x => (x = nI 1 ∧ tst (tq i) h (tl i)) ∨ (x = nI 0 ∧ ¬ tst (tq i) h (tl i)))) 0 0 (fun _ => False) := by
  refine Met.ofW (cc := cX2_holds) (maxL := 4) (ret := (some .boolean)) (by decide) rfl ?_
  intro p e s m args below meth c s₁ B hml hv
  obtain ⟨rfl, hP, hK⟩ := hv
  have hx := B.exec
  have hb := B.bytes
  have hr := B.returns
  have hts := atoms_spec (ws := (Cond.code yX2_holds cX2_holds 4 (some .boolean) :: wB)) B.pre
  have hown : s.vm.findClass RX2 = some m.cls := findClass_of_methodNamed B.named
  have hlocks := B.notSynchronized
  have hl := lv_entry ([.ref t0, .int (nI i), .long h]) (n := 4) (Nat.le_of_ble_eq_true rfl)
  rw [lg_entry_eq]
  generalize (lg_sl ([.ref t0, .int (nI i), .long h]) ++ List.replicate (4 - (lg_sl ([.ref t0, .int (nI i), .long h])).length) Slot.unset).toArray = ls at hl ⊢
  have hl : lv_has ls 4 [(0, .ref t0), (1, .int (nI i)), (2, .long h)] := hl
  refine lv_aload_n hx hb dX2_holds_0 rfl (lv_at hl 0 rfl) ?_
  refine va_get (D := D) (ci := 2) (v := .ref tr) (C := RX2) (T := TX2) (N := 5) hx hb hts mu_X2 hown hK hP 0 rfl rfl 3 (by decide) (hts _ (List.mem_cons_of_mem _ mw_76)) (fun _ h9 => h9) rfl dX2_holds_1 ?_
  refine lv_iload_n hx hb dX2_holds_4 rfl (lv_at hl 1 rfl) ?_
  refine rk_iald hx hb hK hP 3 0 rfl rfl (i := i) (by omega) (by decide) dX2_holds_5 ?_
  refine lv_if_ge (tgt := 26) hx hb dX2_holds_6 (by decide) (fun c_6 => ?_) (fun c_6 => ?_)
  · skip
    refine lv_aload_n hx hb dX2_holds_26 rfl (lv_at hl 0 rfl) ?_
    refine va_get (D := D) (ci := 2) (v := .ref tr) (C := RX2) (T := TX2) (N := 5) hx hb hts mu_X2 hown hK hP 0 rfl rfl 3 (by decide) (hts _ (List.mem_cons_of_mem _ mw_76)) (fun _ h9 => h9) rfl dX2_holds_27 ?_
    refine lv_iload_n hx hb dX2_holds_30 rfl (lv_at hl 1 rfl) ?_
    refine rk_iald hx hb hK hP 3 0 rfl rfl (i := i) (by omega) (by decide) dX2_holds_31 ?_
    refine lv_if_le (tgt := 52) hx hb dX2_holds_32 (by decide) (fun c_32 => ?_) (fun c_32 => ?_)
    · skip
      refine lv_lload_n hx hb dX2_holds_52 rfl (lv_at hl 2 rfl) ?_
      refine lv_aload_n hx hb dX2_holds_53 rfl (lv_at hl 0 rfl) ?_
      refine va_get (D := D) (ci := 2) (v := .ref tb) (C := RX2) (T := TX2) (N := 5) hx hb hts mu_X2 hown hK hP 0 rfl rfl 4 (by decide) (hts _ (List.mem_cons_of_mem _ mw_77)) (fun _ h9 => h9) rfl dX2_holds_54 ?_
      refine lv_iload_n hx hb dX2_holds_57 rfl (lv_at hl 1 rfl) ?_
      refine rk_lald hx hb hK hP 4 1 rfl rfl (i := i) (by omega) (by decide) dX2_holds_58 ?_
      refine W.lcmp hx hb dX2_holds_59 ?_
      refine lv_if_ne (tgt := 67) hx hb dX2_holds_60 (by decide) (fun c_60 => ?_) (fun c_60 => ?_)
      · have c_60 := mt (lg_cmp_eq _ _).mpr c_60
        refine lv_iconst (v := nI 0) hx hb dX2_holds_67 (by decide) ?_
        exact W.zret (v := (nI 0)) hx hb hr (by decide) (fun t ht hW => ⟨_, rfl, (by have c6 := i_len c_6; have c32 := i_len c_32; first | exact Or.inl ⟨rfl, Or.inr (Or.inr ⟨c6, c32, c_60⟩)⟩ | (refine Or.inr ⟨rfl, fun z => ?_⟩; rcases z with z | z | z; exact c6 z.1; exact c32 z.2.1; exact c_60 z.2.2)), ht⟩) (fun q h => nomatch h) dX2_holds_68
      · have c_60 := (lg_cmp_eq _ _).mp c_60
        refine lv_iconst (v := nI 1) hx hb dX2_holds_63 (by decide) ?_
        refine lv_goto (tgt := 68) hx hb dX2_holds_64 (by decide) ?_
        exact W.zret (v := (nI 1)) hx hb hr (by decide) (fun t ht hW => ⟨_, rfl, (by have c6 := i_len c_6; have c32 := i_len c_32; first | exact Or.inl ⟨rfl, Or.inr (Or.inr ⟨c6, c32, c_60⟩)⟩ | (refine Or.inr ⟨rfl, fun z => ?_⟩; rcases z with z | z | z; exact c6 z.1; exact c32 z.2.1; exact c_60 z.2.2)), ht⟩) (fun q h => nomatch h) dX2_holds_68
    · skip
      refine lv_lload_n hx hb dX2_holds_35 rfl (lv_at hl 2 rfl) ?_
      refine lv_aload_n hx hb dX2_holds_36 rfl (lv_at hl 0 rfl) ?_
      refine va_get (D := D) (ci := 2) (v := .ref tb) (C := RX2) (T := TX2) (N := 5) hx hb hts mu_X2 hown hK hP 0 rfl rfl 4 (by decide) (hts _ (List.mem_cons_of_mem _ mw_77)) (fun _ h9 => h9) rfl dX2_holds_37 ?_
      refine lv_iload_n hx hb dX2_holds_40 rfl (lv_at hl 1 rfl) ?_
      refine rk_lald hx hb hK hP 4 1 rfl rfl (i := i) (by omega) (by decide) dX2_holds_41 ?_
      refine W.lcmp hx hb dX2_holds_42 ?_
      refine lv_if_le (tgt := 50) hx hb dX2_holds_43 (by decide) (fun c_43 => ?_) (fun c_43 => ?_)
      · have c_43 := (lg_cmp_le _ _).mp c_43
        refine lv_iconst (v := nI 0) hx hb dX2_holds_50 (by decide) ?_
        exact W.zret (v := (nI 0)) hx hb hr (by decide) (fun t ht hW => ⟨_, rfl, (by have c6 := i_len c_6; have c32 := i_nle c_32; first | exact Or.inl ⟨rfl, Or.inr (Or.inl ⟨c6, c32, Int64.not_le.mp c_43⟩)⟩ | (refine Or.inr ⟨rfl, fun z => ?_⟩; rcases z with z | z | z; exact c6 z.1; exact absurd c_43 (Int64.not_le.mpr z.2.2); exact z.2.1 c32)), ht⟩) (fun q h => nomatch h) dX2_holds_51
      · have c_43 := mt (lg_cmp_le _ _).mpr c_43
        refine lv_iconst (v := nI 1) hx hb dX2_holds_46 (by decide) ?_
        refine lv_goto (tgt := 51) hx hb dX2_holds_47 (by decide) ?_
        exact W.zret (v := (nI 1)) hx hb hr (by decide) (fun t ht hW => ⟨_, rfl, (by have c6 := i_len c_6; have c32 := i_nle c_32; first | exact Or.inl ⟨rfl, Or.inr (Or.inl ⟨c6, c32, Int64.not_le.mp c_43⟩)⟩ | (refine Or.inr ⟨rfl, fun z => ?_⟩; rcases z with z | z | z; exact c6 z.1; exact absurd c_43 (Int64.not_le.mpr z.2.2); exact z.2.1 c32)), ht⟩) (fun q h => nomatch h) dX2_holds_51
  · skip
    refine lv_lload_n hx hb dX2_holds_9 rfl (lv_at hl 2 rfl) ?_
    refine lv_aload_n hx hb dX2_holds_10 rfl (lv_at hl 0 rfl) ?_
    refine va_get (D := D) (ci := 2) (v := .ref tb) (C := RX2) (T := TX2) (N := 5) hx hb hts mu_X2 hown hK hP 0 rfl rfl 4 (by decide) (hts _ (List.mem_cons_of_mem _ mw_77)) (fun _ h9 => h9) rfl dX2_holds_11 ?_
    refine lv_iload_n hx hb dX2_holds_14 rfl (lv_at hl 1 rfl) ?_
    refine rk_lald hx hb hK hP 4 1 rfl rfl (i := i) (by omega) (by decide) dX2_holds_15 ?_
    refine W.lcmp hx hb dX2_holds_16 ?_
    refine lv_if_ge (tgt := 24) hx hb dX2_holds_17 (by decide) (fun c_17 => ?_) (fun c_17 => ?_)
    · have c_17 := (lg_cmp_ge _ _).mp c_17
      refine lv_iconst (v := nI 0) hx hb dX2_holds_24 (by decide) ?_
      exact W.zret (v := (nI 0)) hx hb hr (by decide) (fun t ht hW => ⟨_, rfl, (by have c6 := i_nle c_6; first | exact Or.inl ⟨rfl, Or.inl ⟨c6, Int64.not_le.mp c_17⟩⟩ | (refine Or.inr ⟨rfl, fun z => ?_⟩; rcases z with z | z | z; exact absurd c_17 (Int64.not_le.mpr z.2); exact z.1 c6; exact z.1 c6)), ht⟩) (fun q h => nomatch h) dX2_holds_25
    · have c_17 := mt (lg_cmp_ge _ _).mpr c_17
      refine lv_iconst (v := nI 1) hx hb dX2_holds_20 (by decide) ?_
      refine lv_goto (tgt := 25) hx hb dX2_holds_21 (by decide) ?_
      exact W.zret (v := (nI 1)) hx hb hr (by decide) (fun t ht hW => ⟨_, rfl, (by have c6 := i_nle c_6; first | exact Or.inl ⟨rfl, Or.inl ⟨c6, Int64.not_le.mp c_17⟩⟩ | (refine Or.inr ⟨rfl, fun z => ?_⟩; rcases z with z | z | z; exact absurd c_17 (Int64.not_le.mpr z.2); exact z.1 c6; exact z.1 c6)), ht⟩) (fun q h => nomatch h) dX2_holds_25
set_option maxHeartbeats 4000000 in
set_option maxRecDepth 100000 in
theorem c_X2_allHold (l : Launch) (D : va_G) (cI cJ cZ : ClassId) (t0 tk tw tr tb tz : Nat) (ta tv tq : Nat → Int32) (tl : Nat → Int64) (htz : tz ≤ 20) (g0 gk gr gs gv gw gc gp gb r n : Nat) (kf rf sf : Nat → Int32) (vf : Nat → Int64) (wf cf pf bf : Nat → Int32) (hn : n ≤ 300) : Met l yX2_allHold (Cond.code yX2_allHold cX2_allHold 3 (some .boolean) :: wB) ({ frames := 3, cells := 0, slots := 0, locals := 69 } : Room) (ro_Pc D cI cJ cZ [.ref t0, .ref g0] [(t0, .inr (2, [.int (nI tz), .ref tk, .ref tw, .ref tr, .ref tb])), (tk, .inl (cI, 20, .inl ta)), (tw, .inl (cI, 20, .inl tv)), (tr, .inl (cI, 20, .inl tq)), (tb, .inl (cJ, 20, .inr (.inl tl))), (g0, .inr (0, [.int (nI r), .int (nI n), .ref gk, .ref gr, .ref gs, .ref gv, .ref gw, .ref gc, .ref gp, .ref gb])), (gk, .inl (cI, 300, .inl kf)), (gr, .inl (cI, 300, .inl rf)), (gs, .inl (cZ, 300, .inl sf)), (gv, .inl (cJ, 300, .inr (.inl vf))), (gw, .inl (cI, 300, .inl wf)), (gc, .inl (cI, 300, .inl cf)), (gp, .inl (cI, 300, .inl pf)), (gb, .inl (cI, 300, .inl bf))]) (vp_Si (fun x => (x = nI 1 ∧ ∀ i, i < tz → ∃ y, rdv (n, kf, rf, sf, vf, wf, cf, pf, bf) (ta i) (nI r) (tv i) y ∧ tst (tq i) y (tl i)) ∨ (x = nI 0 ∧ ∃ i, i < tz ∧ ∃ y, rdv (n, kf, rf, sf, vf, wf, cf, pf, bf) (ta i) (nI r) (tv i) y ∧ ¬ tst (tq i) y (tl i)))) 0 0 (fun _ => False) := by
  refine Met.ofW (cc := cX2_allHold) (maxL := 3) (ret := (some .boolean)) (by decide) rfl ?_
  intro p e s m args below meth c s₁ B hml hv
  obtain ⟨rfl, hP, hK⟩ := hv
  have hx := B.exec
  have hb := B.bytes
  have hr := B.returns
  have hts := atoms_spec (ws := (Cond.code yX2_allHold cX2_allHold 3 (some .boolean) :: wB)) B.pre
  have hown : s.vm.findClass RX2 = some m.cls := findClass_of_methodNamed B.named
  have hlocks := B.notSynchronized
  have hl := lv_entry ([.ref t0, .ref g0]) (n := 3) (Nat.le_of_ble_eq_true rfl)
  rw [lg_entry_eq]
  generalize (lg_sl ([.ref t0, .ref g0]) ++ List.replicate (3 - (lg_sl ([.ref t0, .ref g0])).length) Slot.unset).toArray = ls at hl ⊢
  have hl : lv_has ls 3 [(0, .ref t0), (1, .ref g0)] := hl
  refine lv_iconst (v := nI 0) hx hb dX2_allHold_0 (by decide) ?_
  refine lv_istore_n (lv' := [(2, .int (nI 0)), (0, .ref t0), (1, .ref g0)]) hx hb dX2_allHold_1 rfl hl (by decide) rfl (fun ls hl => ?_)
  have hloop_2 : ∀ (k : Nat) (i : Nat), tz - i < k → i ≤ tz → (∀ j, j < i → ∃ y, rdv (n, kf, rf, sf, vf, wf, cf, pf, bf) (ta j) (nI r) (tv j) y ∧ tst (tq j) y (tl j)) → ∀ (ls : Array Slot), lv_has ls 3 [(0, .ref t0), (1, .ref g0), (2, .int (nI i))] → W p l e ({ frames := 3, cells := 0, slots := 0, locals := 69 } : Room) s m ([.ref t0, .ref g0] : List Value).toArray below meth c s.heap [] 0 0 (MQ below (vp_Si (fun x => (x = nI 1 ∧ ∀ i, i < tz → ∃ y, rdv (n, kf, rf, sf, vf, wf, cf, pf, bf) (ta i) (nI r) (tv i) y ∧ tst (tq i) y (tl i)) ∨ (x = nI 0 ∧ ∃ i, i < tz ∧ ∃ y, rdv (n, kf, rf, sf, vf, wf, cf, pf, bf) (ta i) (nI r) (tv i) y ∧ ¬ tst (tq i) y (tl i)))) ([.ref t0, .ref g0] : List Value).toArray s 0 0 (fun _ => False)) (F0 m 2 ls []) := by
    intro k
    induction k with
    | zero => intro i hm; exact absurd hm (Nat.not_lt_zero _)
    | succ k ih_2 =>
      intro i hm_2 hi hq ls hl
      refine lv_iload_n hx hb dX2_allHold_2 rfl (lv_at hl 2 rfl) ?_
      refine lv_aload_n hx hb dX2_allHold_3 rfl (lv_at hl 0 rfl) ?_
      refine va_get (D := D) (ci := 2) (v := .int (nI tz)) (C := RX2) (T := TX2) (N := 5) hx hb hts mu_X2 hown hK hP 0 rfl rfl 0 (by decide) (hts _ (List.mem_cons_of_mem _ mw_72)) (fun _ h9 => h9) rfl dX2_allHold_4 ?_
      refine lv_icmp_ge (tgt := 46) hx hb dX2_allHold_7 (by decide) (fun c_7 => ?_) (fun c_7 => ?_)
      · have c_7 := (nI_leI (by omega) (by omega)).mp c_7
        refine lv_iconst (v := nI 1) hx hb dX2_allHold_46 (by decide) ?_
        exact W.zret (v := (nI 1)) hx hb hr (by decide) (fun t ht hW => ⟨_, rfl, (Or.inl ⟨rfl, fun j hj => hq j (by omega)⟩), ht⟩) (fun q h => nomatch h) dX2_allHold_47
      · have c_7 := mt (nI_leI (by omega) (by omega)).mpr c_7
        refine lv_aload_n hx hb dX2_allHold_10 rfl (lv_at hl 0 rfl) ?_
        refine lv_iload_n hx hb dX2_allHold_11 rfl (lv_at hl 2 rfl) ?_
        refine lv_aload_n hx hb dX2_allHold_12 rfl (lv_at hl 1 rfl) ?_
        refine lv_aload_n hx hb dX2_allHold_13 rfl (lv_at hl 0 rfl) ?_
        refine va_get (D := D) (ci := 2) (v := .ref tk) (C := RX2) (T := TX2) (N := 5) hx hb hts mu_X2 hown hK hP 0 rfl rfl 1 (by decide) (hts _ (List.mem_cons_of_mem _ mw_74)) (fun _ h9 => h9) rfl dX2_allHold_14 ?_
        refine lv_iload_n hx hb dX2_allHold_17 rfl (lv_at hl 2 rfl) ?_
        refine rk_iald hx hb hK hP 1 0 rfl rfl (i := i) (by omega) (by decide) dX2_allHold_18 ?_
        refine lv_aload_n hx hb dX2_allHold_19 rfl (lv_at hl 1 rfl) ?_
        refine va_get (D := D) (ci := 0) (v := .int (nI r)) (C := RX0) (T := TX0) (N := 10) hx hb hts mu_X0 hown hK hP 5 rfl rfl 0 (by decide) (hts _ (List.mem_cons_of_mem _ mw_29)) (fun _ h9 => h9) rfl dX2_allHold_20 ?_
        refine lv_aload_n hx hb dX2_allHold_23 rfl (lv_at hl 0 rfl) ?_
        refine va_get (D := D) (ci := 2) (v := .ref tw) (C := RX2) (T := TX2) (N := 5) hx hb hts mu_X2 hown hK hP 0 rfl rfl 2 (by decide) (hts _ (List.mem_cons_of_mem _ mw_75)) (fun _ h9 => h9) rfl dX2_allHold_24 ?_
        refine lv_iload_n hx hb dX2_allHold_27 rfl (lv_at hl 2 rfl) ?_
        refine rk_iald hx hb hK hP 2 0 rfl rfl (i := i) (by omega) (by decide) dX2_allHold_28 ?_
        refine ro_callVl (As := [.int (ta i), .int (nI r), .int (tv i)]) (rest := [.int (nI i), .ref t0]) ⟨hx, hb, hml, hown, hts⟩ (c_X0_read l D cI cJ cZ g0 gk gr gs gv gw gc gp gb r n kf rf sf vf wf cf pf bf (by omega) (ta i) (nI r) (tv i)) (cwV 3 hts (wB_V mw_313 mw_314 mw_315 mw_2 mw_316) rfl rfl rfl (by decide +kernel) ⟨Nat.le_of_ble_eq_true rfl, Nat.le_of_ble_eq_true rfl⟩) (va_recv hK hP (ci := 0) (q0 := 5) rfl rfl) (hP.sub (ws' := [(g0, .inr (0, [.int (nI r), .int (nI n), .ref gk, .ref gr, .ref gs, .ref gv, .ref gw, .ref gc, .ref gp, .ref gb])), (gk, .inl (cI, 300, .inl kf)), (gr, .inl (cI, 300, .inl rf)), (gs, .inl (cZ, 300, .inl sf)), (gv, .inl (cJ, 300, .inr (.inl vf))), (gw, .inl (cI, 300, .inl wf)), (gc, .inl (cI, 300, .inl cf)), (gp, .inl (cI, 300, .inl pf)), (gb, .inl (cI, 300, .inl bf))]) [5, 6, 7, 8, 9, 10, 11, 12, 13] rfl) hK rfl hl.1 (Nat.le_of_ble_eq_true rfl) ⟨Nat.le_of_ble_eq_true rfl, Nat.le_of_ble_eq_true rfl⟩ rfl dX2_allHold_29 (fun r_29 hw_29 => ?_)
        try dsimp only at hw_29
        refine ro_callVi (As := [.int (nI i), .long r_29]) (rest := []) ⟨hx, hb, hml, hown, hts⟩ (c_X2_holds l D cI cJ cZ t0 tk tw tr tb tz ta tv tq tl i (by omega) r_29) (cwV 2 hts (wB_V mw_317 mw_319 ms_5 mw_3 mw_320) rfl rfl rfl (by decide +kernel) ⟨Nat.le_of_ble_eq_true rfl, Nat.le_of_ble_eq_true rfl⟩) (va_recv hK hP (ci := 2) (q0 := 0) rfl rfl) (hP.sub (ws' := [(t0, .inr (2, [.int (nI tz), .ref tk, .ref tw, .ref tr, .ref tb])), (tk, .inl (cI, 20, .inl ta)), (tw, .inl (cI, 20, .inl tv)), (tr, .inl (cI, 20, .inl tq)), (tb, .inl (cJ, 20, .inr (.inl tl)))]) [0, 1, 2, 3, 4] rfl) hK rfl hl.1 (Nat.le_of_ble_eq_true rfl) ⟨Nat.le_of_ble_eq_true rfl, Nat.le_of_ble_eq_true rfl⟩ rfl dX2_allHold_32 (fun r_32 hw_32 => ?_)
        try dsimp only at hw_32
        rcases hw_32 with ⟨rfl, hw_32⟩ | ⟨rfl, hw_32⟩
        · skip
          refine lv_if_ne (tgt := 40) hx hb dX2_allHold_35 (by decide) (fun _ => ?_) (fun c => absurd c (by decide))
          refine lv_iinc (v := nI (i + 1)) (lv' := [(2, .int (nI (i + 1))), (0, .ref t0), (1, .ref g0)]) hx hb dX2_allHold_40 hl (k := 2) rfl (by rw [show Int32.ofInt 1 = nI 1 by decide, nI_add]) (by decide) rfl (fun ls hl => ?_)
          refine lv_goto (tgt := 2) hx hb dX2_allHold_43 (by decide) ?_
          exact ih_2 (i + 1) (by omega) (by omega) (by intro j hj; rcases ls_or hj with h | h; exact hq j h; subst h; exact ⟨_, hw_29, hw_32⟩) ls (lv_sub hl [1, 2, 0] rfl)
        · skip
          refine lv_if_ne (tgt := 40) hx hb dX2_allHold_35 (by decide) (fun c => absurd (by decide) c) (fun _ => ?_)
          refine lv_iconst (v := nI 0) hx hb dX2_allHold_38 (by decide) ?_
          exact W.zret (v := (nI 0)) hx hb hr (by decide) (fun t ht hW => ⟨_, rfl, (Or.inr ⟨rfl, i, by omega, _, hw_29, hw_32⟩), ht⟩) (fun q h => nomatch h) dX2_allHold_39
  -- on to the loop
  exact hloop_2 ((tz - 0) + 1) 0 (Nat.lt_succ_self _) (by omega) (fun q h => absurd h (Nat.not_lt_zero q)) ls (lv_sub hl [1, 2, 0] rfl)
set_option maxHeartbeats 4000000 in
set_option maxRecDepth 100000 in
theorem c_X1_append (l : Launch) (D : va_G) (cI cJ cZ : ClassId) (sz : Nat) (s0 sk ss sv zz : Nat) (ka sa : Nat → Int32) (va : Nat → Int64) (hzz : zz < 20) (key b : Int32) (hb01 : b = nI 0 ∨ b = nI 1) (v : Int64) : Met l yX1_append (Cond.code yX1_append cX1_append 5 none :: wB) ({ frames := 0, cells := 0, slots := 0, locals := 0 } : Room) (rw_Pc D cI cJ cZ sz [.ref s0, .int key, .int b, .long v] [(s0, .inr (1, [.int (nI zz), .ref sk, .ref ss, .ref sv])), (sk, .inl (cI, 20, .inl ka)), (ss, .inl (cZ, 20, .inl sa)), (sv, .inl (cJ, 20, .inr (.inl va)))]) (rw_Qv (S := Unit) D cI cJ cZ sz [(s0, .inr (1, [.int (nI zz), .ref sk, .ref ss, .ref sv])), (sk, .inl (cI, 20, .inl ka)), (ss, .inl (cZ, 20, .inl sa)), (sv, .inl (cJ, 20, .inr (.inl va)))] (fun u => [(s0, .inr (1, [.int (nI (zz + 1)), .ref sk, .ref ss, .ref sv])), (sk, .inl (cI, 20, .inl (upd ka zz key))), (ss, .inl (cZ, 20, .inl (upd sa zz b))), (sv, .inl (cJ, 20, .inr (.inl (vp_updL va zz v))))]) (fun _ => True)) 0 0 (va_A [(s0, .inr (1, [.int (nI zz), .ref sk, .ref ss, .ref sv])), (sk, .inl (cI, 20, .inl ka)), (ss, .inl (cZ, 20, .inl sa)), (sv, .inl (cJ, 20, .inr (.inl va)))] sz) := by
  refine Met.ofW (cc := cX1_append) (maxL := 5) (ret := none) (by decide) rfl ?_
  intro p e s m args below meth c s₁ B hml hv
  obtain ⟨rfl, hsz, hP, hK, hD0⟩ := hv
  have hx := B.exec
  have hb := B.bytes
  have hr := B.returns
  have hts := atoms_spec (ws := (Cond.code yX1_append cX1_append 5 none :: wB)) B.pre
  have hown : s.vm.findClass RX1 = some m.cls := findClass_of_methodNamed B.named
  have hlocks := B.notSynchronized
  subst hsz
  have hD := hD0.self (sz := s.heap.size)
  obtain ⟨A, hAe⟩ : ∃ A, A = va_A [(s0, .inr (1, [.int (nI zz), .ref sk, .ref ss, .ref sv])), (sk, .inl (cI, 20, .inl ka)), (ss, .inl (cZ, 20, .inl sa)), (sv, .inl (cJ, 20, .inr (.inl va)))] s.heap.size := ⟨_, rfl⟩
  rw [← hAe] at hD
  have hA : ∀ q : Nat, s.heap.size ≤ q → A q := fun q h => by rw [hAe]; exact Or.inr h
  have hS : va_S A s.heap s.heap [] := va_S.rf
  have hl := lv_entry ([.ref s0, .int key, .int b, .long v]) (n := 5) (Nat.le_of_ble_eq_true rfl)
  rw [lg_entry_eq]
  generalize (lg_sl ([.ref s0, .int key, .int b, .long v]) ++ List.replicate (5 - (lg_sl ([.ref s0, .int key, .int b, .long v])).length) Slot.unset).toArray = ls at hl ⊢
  have hl : lv_has ls 5 [(0, .ref s0), (1, .int key), (2, .int b), (3, .long v)] := hl
  refine lv_aload_n hx hb dX1_append_0 rfl (lv_at hl 0 rfl) ?_
  refine va_get (D := D) (ci := 1) (v := .ref sk) (C := RX1) (T := TX1) (N := 4) hx hb hts mu_X1 hown hK hP 0 rfl rfl 1 (by decide) (hts _ (List.mem_cons_of_mem _ mw_97)) (fun _ h9 => h9) rfl dX1_append_1 ?_
  refine lv_aload_n hx hb dX1_append_4 rfl (lv_at hl 0 rfl) ?_
  refine va_get (D := D) (ci := 1) (v := .int (nI zz)) (C := RX1) (T := TX1) (N := 4) hx hb hts mu_X1 hown hK hP 0 rfl rfl 0 (by decide) (hts _ (List.mem_cons_of_mem _ mw_95)) (fun _ h9 => h9) rfl dX1_append_5 ?_
  refine lv_iload_n hx hb dX1_append_8 rfl (lv_at hl 1 rfl) ?_
  refine rk_iast hx hb hK hP hD hS 1 0 rfl rfl (i := zz) (by omega) (by decide) dX1_append_9 (fun H locs hP hD hS => ?_)
  have hP : va_P D vwCl [(s0, .inr (1, [.int (nI zz), .ref sk, .ref ss, .ref sv])), (sk, .inl (cI, 20, .inl (upd ka zz key))), (ss, .inl (cZ, 20, .inl sa)), (sv, .inl (cJ, 20, .inr (.inl va)))] H := hP
  have hD : va_D A [(s0, .inr (1, [.int (nI zz), .ref sk, .ref ss, .ref sv])), (sk, .inl (cI, 20, .inl (upd ka zz key))), (ss, .inl (cZ, 20, .inl sa)), (sv, .inl (cJ, 20, .inr (.inl va)))] := hD
  refine lv_aload_n hx hb dX1_append_10 rfl (lv_at hl 0 rfl) ?_
  refine va_get (D := D) (ci := 1) (v := .ref ss) (C := RX1) (T := TX1) (N := 4) hx hb hts mu_X1 hown hK hP 0 rfl rfl 2 (by decide) (hts _ (List.mem_cons_of_mem _ mw_98)) (fun _ h9 => h9) rfl dX1_append_11 ?_
  refine lv_aload_n hx hb dX1_append_14 rfl (lv_at hl 0 rfl) ?_
  refine va_get (D := D) (ci := 1) (v := .int (nI zz)) (C := RX1) (T := TX1) (N := 4) hx hb hts mu_X1 hown hK hP 0 rfl rfl 0 (by decide) (hts _ (List.mem_cons_of_mem _ mw_95)) (fun _ h9 => h9) rfl dX1_append_15 ?_
  refine lv_iload_n hx hb dX1_append_18 rfl (lv_at hl 2 rfl) ?_
  refine rk_zast hx hb hK hP hD hS 2 2 rfl rfl (i := zz) (by rcases hb01 with h | h <;> rw [h] <;> decide) (by omega) (by decide) dX1_append_19 (fun H locs hP hD hS => ?_)
  have hP : va_P D vwCl [(s0, .inr (1, [.int (nI zz), .ref sk, .ref ss, .ref sv])), (sk, .inl (cI, 20, .inl (upd ka zz key))), (ss, .inl (cZ, 20, .inl (upd sa zz b))), (sv, .inl (cJ, 20, .inr (.inl va)))] H := hP
  have hD : va_D A [(s0, .inr (1, [.int (nI zz), .ref sk, .ref ss, .ref sv])), (sk, .inl (cI, 20, .inl (upd ka zz key))), (ss, .inl (cZ, 20, .inl (upd sa zz b))), (sv, .inl (cJ, 20, .inr (.inl va)))] := hD
  refine lv_aload_n hx hb dX1_append_20 rfl (lv_at hl 0 rfl) ?_
  refine va_get (D := D) (ci := 1) (v := .ref sv) (C := RX1) (T := TX1) (N := 4) hx hb hts mu_X1 hown hK hP 0 rfl rfl 3 (by decide) (hts _ (List.mem_cons_of_mem _ mw_99)) (fun _ h9 => h9) rfl dX1_append_21 ?_
  refine lv_aload_n hx hb dX1_append_24 rfl (lv_at hl 0 rfl) ?_
  refine va_get (D := D) (ci := 1) (v := .int (nI zz)) (C := RX1) (T := TX1) (N := 4) hx hb hts mu_X1 hown hK hP 0 rfl rfl 0 (by decide) (hts _ (List.mem_cons_of_mem _ mw_95)) (fun _ h9 => h9) rfl dX1_append_25 ?_
  refine lv_lload_n hx hb dX1_append_28 rfl (lv_at hl 3 rfl) ?_
  refine rk_last hx hb hK hP hD hS 3 1 rfl rfl (i := zz) (by omega) (by decide) dX1_append_29 (fun H locs hP hD hS => ?_)
  have hP : va_P D vwCl [(s0, .inr (1, [.int (nI zz), .ref sk, .ref ss, .ref sv])), (sk, .inl (cI, 20, .inl (upd ka zz key))), (ss, .inl (cZ, 20, .inl (upd sa zz b))), (sv, .inl (cJ, 20, .inr (.inl (vp_updL va zz v))))] H := hP
  have hD : va_D A [(s0, .inr (1, [.int (nI zz), .ref sk, .ref ss, .ref sv])), (sk, .inl (cI, 20, .inl (upd ka zz key))), (ss, .inl (cZ, 20, .inl (upd sa zz b))), (sv, .inl (cJ, 20, .inr (.inl (vp_updL va zz v))))] := hD
  refine lv_aload_n hx hb dX1_append_30 rfl (lv_at hl 0 rfl) ?_
  refine lv_dup hx hb dX1_append_31 rfl ?_
  refine va_get (D := D) (ci := 1) (v := .int (nI zz)) (C := RX1) (T := TX1) (N := 4) hx hb hts mu_X1 hown hK hP 0 rfl rfl 0 (by decide) (hts _ (List.mem_cons_of_mem _ mw_95)) (fun _ h9 => h9) rfl dX1_append_32 ?_
  refine lv_iconst (v := nI 1) hx hb dX1_append_35 (by decide) ?_
  refine rk_iadd hx hb dX1_append_36 ?_
  refine va_put (D := D) (ci := 1) (v := .int (nI (zz + 1))) (ty := .int) (C := RX1) (T := TX1) (N := 4) hx hb hts mu_X1 tyX1 tyX1_ok nmX1 hown hK hP hD hS 0 rfl rfl 0 (by decide) (hts _ (List.mem_cons_of_mem _ mw_95)) (fun _ h9 => h9) rfl (by decide +kernel) rfl rfl (Nat.le_of_ble_eq_true rfl) dX1_append_37 (fun H locs hP hD hS => ?_)
  have hP : va_P D vwCl [(s0, .inr (1, [.int (nI (zz + 1)), .ref sk, .ref ss, .ref sv])), (sk, .inl (cI, 20, .inl (upd ka zz key))), (ss, .inl (cZ, 20, .inl (upd sa zz b))), (sv, .inl (cJ, 20, .inr (.inl (vp_updL va zz v))))] H := hP
  have hD : va_D A [(s0, .inr (1, [.int (nI (zz + 1)), .ref sk, .ref ss, .ref sv])), (sk, .inl (cI, 20, .inl (upd ka zz key))), (ss, .inl (cZ, 20, .inl (upd sa zz b))), (sv, .inl (cJ, 20, .inr (.inl (vp_updL va zz v))))] := hD
  exact rw_retv (u := ()) hAe (hP) (hD) hS hK (trivial) (Nat.le_of_ble_eq_true rfl) (Nat.le_of_ble_eq_true rfl) hx hb hr hlocks dX1_append_40
set_option maxHeartbeats 4000000 in
set_option maxRecDepth 100000 in
theorem c_X1_clear (l : Launch) (D : va_G) (cI cJ cZ : ClassId) (sz : Nat) (s0 sk ss sv zz : Nat) (ka sa : Nat → Int32) (va : Nat → Int64) : Met l yX1_clear (Cond.code yX1_clear cX1_clear 1 none :: wB) ({ frames := 0, cells := 0, slots := 0, locals := 0 } : Room) (rw_Pc D cI cJ cZ sz [.ref s0] [(s0, .inr (1, [.int (nI zz), .ref sk, .ref ss, .ref sv])), (sk, .inl (cI, 20, .inl ka)), (ss, .inl (cZ, 20, .inl sa)), (sv, .inl (cJ, 20, .inr (.inl va)))]) (rw_Qv (S := Unit) D cI cJ cZ sz [(s0, .inr (1, [.int (nI zz), .ref sk, .ref ss, .ref sv])), (sk, .inl (cI, 20, .inl ka)), (ss, .inl (cZ, 20, .inl sa)), (sv, .inl (cJ, 20, .inr (.inl va)))] (fun u => [(s0, .inr (1, [.int (nI 0), .ref sk, .ref ss, .ref sv])), (sk, .inl (cI, 20, .inl ka)), (ss, .inl (cZ, 20, .inl sa)), (sv, .inl (cJ, 20, .inr (.inl va)))]) (fun _ => True)) 0 0 (va_A [(s0, .inr (1, [.int (nI zz), .ref sk, .ref ss, .ref sv])), (sk, .inl (cI, 20, .inl ka)), (ss, .inl (cZ, 20, .inl sa)), (sv, .inl (cJ, 20, .inr (.inl va)))] sz) := by
  refine Met.ofW (cc := cX1_clear) (maxL := 1) (ret := none) (by decide) rfl ?_
  intro p e s m args below meth c s₁ B hml hv
  obtain ⟨rfl, hsz, hP, hK, hD0⟩ := hv
  have hx := B.exec
  have hb := B.bytes
  have hr := B.returns
  have hts := atoms_spec (ws := (Cond.code yX1_clear cX1_clear 1 none :: wB)) B.pre
  have hown : s.vm.findClass RX1 = some m.cls := findClass_of_methodNamed B.named
  have hlocks := B.notSynchronized
  subst hsz
  have hD := hD0.self (sz := s.heap.size)
  obtain ⟨A, hAe⟩ : ∃ A, A = va_A [(s0, .inr (1, [.int (nI zz), .ref sk, .ref ss, .ref sv])), (sk, .inl (cI, 20, .inl ka)), (ss, .inl (cZ, 20, .inl sa)), (sv, .inl (cJ, 20, .inr (.inl va)))] s.heap.size := ⟨_, rfl⟩
  rw [← hAe] at hD
  have hA : ∀ q : Nat, s.heap.size ≤ q → A q := fun q h => by rw [hAe]; exact Or.inr h
  have hS : va_S A s.heap s.heap [] := va_S.rf
  have hl := lv_entry ([.ref s0]) (n := 1) (Nat.le_of_ble_eq_true rfl)
  rw [lg_entry_eq]
  generalize (lg_sl ([.ref s0]) ++ List.replicate (1 - (lg_sl ([.ref s0])).length) Slot.unset).toArray = ls at hl ⊢
  have hl : lv_has ls 1 [(0, .ref s0)] := hl
  refine lv_aload_n hx hb dX1_clear_0 rfl (lv_at hl 0 rfl) ?_
  refine lv_iconst (v := nI 0) hx hb dX1_clear_1 (by decide) ?_
  refine va_put (D := D) (ci := 1) (v := .int (nI 0)) (ty := .int) (C := RX1) (T := TX1) (N := 4) hx hb hts mu_X1 tyX1 tyX1_ok nmX1 hown hK hP hD hS 0 rfl rfl 0 (by decide) (hts _ (List.mem_cons_of_mem _ mw_95)) (fun _ h9 => h9) rfl (by decide +kernel) rfl rfl (Nat.le_of_ble_eq_true rfl) dX1_clear_2 (fun H locs hP hD hS => ?_)
  have hP : va_P D vwCl [(s0, .inr (1, [.int (nI 0), .ref sk, .ref ss, .ref sv])), (sk, .inl (cI, 20, .inl ka)), (ss, .inl (cZ, 20, .inl sa)), (sv, .inl (cJ, 20, .inr (.inl va)))] H := hP
  have hD : va_D A [(s0, .inr (1, [.int (nI 0), .ref sk, .ref ss, .ref sv])), (sk, .inl (cI, 20, .inl ka)), (ss, .inl (cZ, 20, .inl sa)), (sv, .inl (cJ, 20, .inr (.inl va)))] := hD
  exact rw_retv (u := ()) hAe (hP) (hD) hS hK (trivial) (Nat.le_of_ble_eq_true rfl) (Nat.le_of_ble_eq_true rfl) hx hb hr hlocks dX1_clear_5
set_option maxHeartbeats 4000000 in
set_option maxRecDepth 100000 in
theorem c_X1_isThereBefore (l : Launch) (D : va_G) (cI cJ cZ : ClassId) (s0 sk ss sv zz : Nat) (ka sa : Nat → Int32) (va : Nat → Int64) (hs01 : ∀ j, j < zz → sa j = nI 0 ∨ sa j = nI 1) (hzz : zz ≤ 20) (i : Nat) (hi : i < zz) (g0 gk gr gs gv gw gc gp gb r n : Nat) (kf rf sf : Nat → Int32) (vf : Nat → Int64) (wf cf pf bf : Nat → Int32) (hn : n ≤ 300) : Met l yX1_isThereBefore (Cond.code yX1_isThereBefore cX1_isThereBefore 4 (some .boolean) :: wB) ({ frames := 3, cells := 0, slots := 0, locals := 66 } : Room) (ro_Pc D cI cJ cZ [.ref s0, .int (nI i), .ref g0] [(s0, .inr (1, [.int (nI zz), .ref sk, .ref ss, .ref sv])), (sk, .inl (cI, 20, .inl ka)), (ss, .inl (cZ, 20, .inl sa)), (sv, .inl (cJ, 20, .inr (.inl va))), (g0, .inr (0, [.int (nI r), .int (nI n), .ref gk, .ref gr, .ref gs, .ref gv, .ref gw, .ref gc, .ref gp, .ref gb])), (gk, .inl (cI, 300, .inl kf)), (gr, .inl (cI, 300, .inl rf)), (gs, .inl (cZ, 300, .inl sf)), (gv, .inl (cJ, 300, .inr (.inl vf))), (gw, .inl (cI, 300, .inl wf)), (gc, .inl (cI, 300, .inl cf)), (gp, .inl (cI, 300, .inl pf)), (gb, .inl (cI, 300, .inl bf))]) (vp_Si (fun x => (x = nI 1 ∧ itb ka sa (fun x => thr (n, kf, rf, sf, vf, wf, cf, pf, bf) x (nI r)) i) ∨ (x = nI 0 ∧ ¬ itb ka sa (fun x => thr (n, kf, rf, sf, vf, wf, cf, pf, bf) x (nI r)) i))) 0 0 (fun _ => False) := by
  refine Met.ofW (cc := cX1_isThereBefore) (maxL := 4) (ret := (some .boolean)) (by decide) rfl ?_
  intro p e s m args below meth c s₁ B hml hv
  obtain ⟨rfl, hP, hK⟩ := hv
  have hx := B.exec
  have hb := B.bytes
  have hr := B.returns
  have hts := atoms_spec (ws := (Cond.code yX1_isThereBefore cX1_isThereBefore 4 (some .boolean) :: wB)) B.pre
  have hown : s.vm.findClass RX1 = some m.cls := findClass_of_methodNamed B.named
  have hlocks := B.notSynchronized
  have hl := lv_entry ([.ref s0, .int (nI i), .ref g0]) (n := 4) (Nat.le_of_ble_eq_true rfl)
  rw [lg_entry_eq]
  generalize (lg_sl ([.ref s0, .int (nI i), .ref g0]) ++ List.replicate (4 - (lg_sl ([.ref s0, .int (nI i), .ref g0])).length) Slot.unset).toArray = ls at hl ⊢
  have hl : lv_has ls 4 [(0, .ref s0), (1, .int (nI i)), (2, .ref g0)] := hl
  refine lv_iload_n hx hb dX1_isThereBefore_0 rfl (lv_at hl 1 rfl) ?_
  refine lv_iconst (v := nI 1) hx hb dX1_isThereBefore_1 (by decide) ?_
  refine lv_isub hx hb dX1_isThereBefore_2 ?_
  refine lv_istore_n (lv' := [(3, .int (nI i - nI 1)), (0, .ref s0), (1, .int (nI i)), (2, .ref g0)]) hx hb dX1_isThereBefore_3 rfl hl (by decide) rfl (fun ls hl => ?_)
  have hloop_4 : ∀ (k : Nat) (j : Nat), j < k → j ≤ i → (∀ t, j ≤ t → t < i → ka t ≠ ka i) → ∀ (ls : Array Slot), lv_has ls 4 [(0, .ref s0), (1, .int (nI i)), (2, .ref g0), (3, .int (nI j - nI 1))] → W p l e ({ frames := 3, cells := 0, slots := 0, locals := 66 } : Room) s m ([.ref s0, .int (nI i), .ref g0] : List Value).toArray below meth c s.heap [] 0 0 (MQ below (vp_Si (fun x => (x = nI 1 ∧ itb ka sa (fun x => thr (n, kf, rf, sf, vf, wf, cf, pf, bf) x (nI r)) i) ∨ (x = nI 0 ∧ ¬ itb ka sa (fun x => thr (n, kf, rf, sf, vf, wf, cf, pf, bf) x (nI r)) i))) ([.ref s0, .int (nI i), .ref g0] : List Value).toArray s 0 0 (fun _ => False)) (F0 m 4 ls []) := by
    intro k
    induction k with
    | zero => intro j hm; exact absurd hm (Nat.not_lt_zero _)
    | succ k ih_4 =>
      intro j hm_4 hj hq ls hl
      refine lv_iload_n hx hb dX1_isThereBefore_4 rfl (lv_at hl 3 rfl) ?_
      refine lv_if_lt (tgt := 36) hx hb dX1_isThereBefore_5 (by decide) (fun c_5 => ?_) (fun c_5 => ?_)
      · have c_5 := (zn_m0 (by omega)).mp c_5
        refine lv_aload_n hx hb dX1_isThereBefore_36 rfl (lv_at hl 2 rfl) ?_
        refine lv_aload_n hx hb dX1_isThereBefore_37 rfl (lv_at hl 0 rfl) ?_
        refine va_get (D := D) (ci := 1) (v := .ref sk) (C := RX1) (T := TX1) (N := 4) hx hb hts mu_X1 hown hK hP 0 rfl rfl 1 (by decide) (hts _ (List.mem_cons_of_mem _ mw_97)) (fun _ h9 => h9) rfl dX1_isThereBefore_38 ?_
        refine lv_iload_n hx hb dX1_isThereBefore_41 rfl (lv_at hl 1 rfl) ?_
        refine rk_iald hx hb hK hP 1 0 rfl rfl (i := i) (by omega) (by decide) dX1_isThereBefore_42 ?_
        refine ro_callVi (As := [.int (ka i)]) (rest := []) ⟨hx, hb, hml, hown, hts⟩ (c_X0_isThere l D cI cJ cZ g0 gk gr gs gv gw gc gp gb r n kf rf sf vf wf cf pf bf (by omega) (ka i)) (cwV 1 hts (wB_V mw_329 mw_241 mw_242 mw_2 mw_243) rfl rfl rfl (by decide +kernel) ⟨Nat.le_of_ble_eq_true rfl, Nat.le_of_ble_eq_true rfl⟩) (va_recv hK hP (ci := 0) (q0 := 4) rfl rfl) (hP.sub (ws' := [(g0, .inr (0, [.int (nI r), .int (nI n), .ref gk, .ref gr, .ref gs, .ref gv, .ref gw, .ref gc, .ref gp, .ref gb])), (gk, .inl (cI, 300, .inl kf)), (gr, .inl (cI, 300, .inl rf)), (gs, .inl (cZ, 300, .inl sf)), (gv, .inl (cJ, 300, .inr (.inl vf))), (gw, .inl (cI, 300, .inl wf)), (gc, .inl (cI, 300, .inl cf)), (gp, .inl (cI, 300, .inl pf)), (gb, .inl (cI, 300, .inl bf))]) [4, 5, 6, 7, 8, 9, 10, 11, 12] rfl) hK rfl hl.1 (Nat.le_of_ble_eq_true rfl) ⟨Nat.le_of_ble_eq_true rfl, Nat.le_of_ble_eq_true rfl⟩ rfl dX1_isThereBefore_43 (fun r_43 hw_43 => ?_)
        try dsimp only at hw_43
        rcases hw_43 with ⟨rfl, hw_43⟩ | ⟨rfl, hw_43⟩
        · skip
          exact W.zret (v := (nI 1)) hx hb hr (by decide) (fun t ht hW => ⟨_, rfl, (by have hal : ∀ t, t < i → ka t ≠ ka i := fun t h2 => hq t (by omega) h2; first | exact Or.inl ⟨rfl, Or.inr ⟨hal, hw_43⟩⟩ | (refine Or.inr ⟨rfl, fun z => ?_⟩; rcases z with ⟨t, ht, hk, -, -⟩ | ⟨-, j1, hj1, z⟩; exact hal t ht hk; exact hw_43 j1 hj1 z)), ht⟩) (fun q h => nomatch h) dX1_isThereBefore_46
        · skip
          exact W.zret (v := (nI 0)) hx hb hr (by decide) (fun t ht hW => ⟨_, rfl, (by have hal : ∀ t, t < i → ka t ≠ ka i := fun t h2 => hq t (by omega) h2; first | exact Or.inl ⟨rfl, Or.inr ⟨hal, hw_43⟩⟩ | (refine Or.inr ⟨rfl, fun z => ?_⟩; rcases z with ⟨t, ht, hk, -, -⟩ | ⟨-, j1, hj1, z⟩; exact hal t ht hk; exact hw_43 j1 hj1 z)), ht⟩) (fun q h => nomatch h) dX1_isThereBefore_46
      · have c_5 := mt (zn_m0 (by omega)).mpr c_5
        rw [pk_sub (show 1 ≤ j by omega)] at hl
        have hl : lv_has ls 4 [(0, .ref s0), (1, .int (nI i)), (2, .ref g0), (3, .int (nI (j - 1)))] := hl
        refine lv_aload_n hx hb dX1_isThereBefore_8 rfl (lv_at hl 0 rfl) ?_
        refine va_get (D := D) (ci := 1) (v := .ref sk) (C := RX1) (T := TX1) (N := 4) hx hb hts mu_X1 hown hK hP 0 rfl rfl 1 (by decide) (hts _ (List.mem_cons_of_mem _ mw_97)) (fun _ h9 => h9) rfl dX1_isThereBefore_9 ?_
        refine lv_iload_n hx hb dX1_isThereBefore_12 rfl (lv_at hl 3 rfl) ?_
        refine rk_iald hx hb hK hP 1 0 rfl rfl (i := j - 1) (by omega) (by decide) dX1_isThereBefore_13 ?_
        refine lv_aload_n hx hb dX1_isThereBefore_14 rfl (lv_at hl 0 rfl) ?_
        refine va_get (D := D) (ci := 1) (v := .ref sk) (C := RX1) (T := TX1) (N := 4) hx hb hts mu_X1 hown hK hP 0 rfl rfl 1 (by decide) (hts _ (List.mem_cons_of_mem _ mw_97)) (fun _ h9 => h9) rfl dX1_isThereBefore_15 ?_
        refine lv_iload_n hx hb dX1_isThereBefore_18 rfl (lv_at hl 1 rfl) ?_
        refine rk_iald hx hb hK hP 1 0 rfl rfl (i := i) (by omega) (by decide) dX1_isThereBefore_19 ?_
        refine lv_icmp_ne (tgt := 30) hx hb dX1_isThereBefore_20 (by decide) (fun c_20 => ?_) (fun c_20 => ?_)
        · skip
          refine lv_iinc (v := nI (j - 1) - nI 1) (lv' := [(3, .int (nI (j - 1) - nI 1)), (0, .ref s0), (1, .int (nI i)), (2, .ref g0)]) hx hb dX1_isThereBefore_30 hl (k := 3) rfl (zn_dec _) (by decide) rfl (fun ls hl => ?_)
          refine lv_goto (tgt := 4) hx hb dX1_isThereBefore_33 (by decide) ?_
          exact ih_4 (j - 1) (by omega) (by omega) (by intro t h1 h2; by_cases h : t = j - 1; (rw [h]; exact c_20); exact hq t (by omega) h2) ls (lv_sub hl [1, 2, 3, 0] rfl)
        · skip
          refine lv_aload_n hx hb dX1_isThereBefore_23 rfl (lv_at hl 0 rfl) ?_
          refine va_get (D := D) (ci := 1) (v := .ref ss) (C := RX1) (T := TX1) (N := 4) hx hb hts mu_X1 hown hK hP 0 rfl rfl 2 (by decide) (hts _ (List.mem_cons_of_mem _ mw_98)) (fun _ h9 => h9) rfl dX1_isThereBefore_24 ?_
          refine lv_iload_n hx hb dX1_isThereBefore_27 rfl (lv_at hl 3 rfl) ?_
          refine rk_zald hx hb hK hP 2 2 rfl rfl (i := j - 1) (by omega) (by decide) dX1_isThereBefore_28 ?_
          rcases hs01 (j - 1) (by omega) with h28 | h28
          · rw [h28]
            exact W.zret (v := (nI 0)) hx hb hr (by decide) (fun t ht hW => ⟨_, rfl, (by have hne : ∀ t, j - 1 < t → t < i → ka t ≠ ka i := fun t h1 h2 => hq t (by omega) h2; first | exact Or.inl ⟨rfl, Or.inl ⟨j - 1, by omega, c_20, hne, by rw [h28]; decide⟩⟩ | (refine Or.inr ⟨rfl, fun z => ?_⟩; rcases z with ⟨t, ht, hk, hm, hs⟩ | ⟨z, -⟩; (by_cases h : t = j - 1; (rw [h, h28] at hs; exact hs (by decide)); (by_cases h2 : t < j - 1; exact hm (j - 1) h2 (by omega) c_20; exact hq t (by omega) ht hk)); exact z (j - 1) (by omega) c_20)), ht⟩) (fun q h => nomatch h) dX1_isThereBefore_29
          · rw [h28]
            exact W.zret (v := (nI 1)) hx hb hr (by decide) (fun t ht hW => ⟨_, rfl, (by have hne : ∀ t, j - 1 < t → t < i → ka t ≠ ka i := fun t h1 h2 => hq t (by omega) h2; first | exact Or.inl ⟨rfl, Or.inl ⟨j - 1, by omega, c_20, hne, by rw [h28]; decide⟩⟩ | (refine Or.inr ⟨rfl, fun z => ?_⟩; rcases z with ⟨t, ht, hk, hm, hs⟩ | ⟨z, -⟩; (by_cases h : t = j - 1; (rw [h, h28] at hs; exact hs (by decide)); (by_cases h2 : t < j - 1; exact hm (j - 1) h2 (by omega) c_20; exact hq t (by omega) ht hk)); exact z (j - 1) (by omega) c_20)), ht⟩) (fun q h => nomatch h) dX1_isThereBefore_29
  -- on to the loop
  exact hloop_4 (i + 1) i (Nat.lt_succ_self _) (by omega) (fun t h1 h2 => absurd h1 (by omega)) ls (lv_sub hl [1, 2, 3, 0] rfl)
set_option maxHeartbeats 4000000 in
set_option maxRecDepth 100000 in
theorem c_X1_eventsOn (l : Launch) (D : va_G) (cI cJ cZ : ClassId) (s0 sk ss sv zz : Nat) (ka sa : Nat → Int32) (va : Nat → Int64) (hs01 : ∀ j, j < zz → sa j = nI 0 ∨ sa j = nI 1) (hzz : zz ≤ 20) (g0 gk gr gs gv gw gc gp gb r n : Nat) (kf rf sf : Nat → Int32) (vf : Nat → Int64) (wf cf pf bf : Nat → Int32) (hn : n ≤ 300) : Met l yX1_eventsOn (Cond.code yX1_eventsOn cX1_eventsOn 4 (some .int) :: wB) ({ frames := 4, cells := 0, slots := 0, locals := 89 } : Room) (ro_Pc D cI cJ cZ [.ref s0, .ref g0] [(s0, .inr (1, [.int (nI zz), .ref sk, .ref ss, .ref sv])), (sk, .inl (cI, 20, .inl ka)), (ss, .inl (cZ, 20, .inl sa)), (sv, .inl (cJ, 20, .inr (.inl va))), (g0, .inr (0, [.int (nI r), .int (nI n), .ref gk, .ref gr, .ref gs, .ref gv, .ref gw, .ref gc, .ref gp, .ref gb])), (gk, .inl (cI, 300, .inl kf)), (gr, .inl (cI, 300, .inl rf)), (gs, .inl (cZ, 300, .inl sf)), (gv, .inl (cJ, 300, .inr (.inl vf))), (gw, .inl (cI, 300, .inl wf)), (gc, .inl (cI, 300, .inl cf)), (gp, .inl (cI, 300, .inl pf)), (gb, .inl (cI, 300, .inl bf))]) (vp_Si (fun x => x = nI (cnt (fun t => (sa t ≠ 0 ∨ itb ka sa (fun x => thr (n, kf, rf, sf, vf, wf, cf, pf, bf) x (nI r)) t)) zz))) 0 0 (fun _ => False) := by
  refine Met.ofW (cc := cX1_eventsOn) (maxL := 4) (ret := (some .int)) (by decide) rfl ?_
  intro p e s m args below meth c s₁ B hml hv
  obtain ⟨rfl, hP, hK⟩ := hv
  have hx := B.exec
  have hb := B.bytes
  have hr := B.returns
  have hts := atoms_spec (ws := (Cond.code yX1_eventsOn cX1_eventsOn 4 (some .int) :: wB)) B.pre
  have hown : s.vm.findClass RX1 = some m.cls := findClass_of_methodNamed B.named
  have hlocks := B.notSynchronized
  have hl := lv_entry ([.ref s0, .ref g0]) (n := 4) (Nat.le_of_ble_eq_true rfl)
  rw [lg_entry_eq]
  generalize (lg_sl ([.ref s0, .ref g0]) ++ List.replicate (4 - (lg_sl ([.ref s0, .ref g0])).length) Slot.unset).toArray = ls at hl ⊢
  have hl : lv_has ls 4 [(0, .ref s0), (1, .ref g0)] := hl
  refine lv_iconst (v := nI 0) hx hb dX1_eventsOn_0 (by decide) ?_
  refine lv_istore_n (lv' := [(2, .int (nI 0)), (0, .ref s0), (1, .ref g0)]) hx hb dX1_eventsOn_1 rfl hl (by decide) rfl (fun ls hl => ?_)
  refine lv_iconst (v := nI 0) hx hb dX1_eventsOn_2 (by decide) ?_
  refine lv_istore_n (lv' := [(3, .int (nI 0)), (2, .int (nI 0)), (0, .ref s0), (1, .ref g0)]) hx hb dX1_eventsOn_3 rfl hl (by decide) rfl (fun ls hl => ?_)
  have hloop_4 : ∀ (k : Nat) (f : Nat) (i : Nat), zz - i < k → i ≤ zz → f = cnt (fun t => (sa t ≠ 0 ∨ itb ka sa (fun x => thr (n, kf, rf, sf, vf, wf, cf, pf, bf) x (nI r)) t)) i → ∀ (ls : Array Slot), lv_has ls 4 [(0, .ref s0), (1, .ref g0), (2, .int (nI f)), (3, .int (nI i))] → W p l e ({ frames := 4, cells := 0, slots := 0, locals := 89 } : Room) s m ([.ref s0, .ref g0] : List Value).toArray below meth c s.heap [] 0 0 (MQ below (vp_Si (fun x => x = nI (cnt (fun t => (sa t ≠ 0 ∨ itb ka sa (fun x => thr (n, kf, rf, sf, vf, wf, cf, pf, bf) x (nI r)) t)) zz))) ([.ref s0, .ref g0] : List Value).toArray s 0 0 (fun _ => False)) (F0 m 4 ls []) := by
    intro k
    induction k with
    | zero => intro f i hm; exact absurd hm (Nat.not_lt_zero _)
    | succ k ih_4 =>
      intro f i hm_4 hi hf ls hl
      refine lv_iload_n hx hb dX1_eventsOn_4 rfl (lv_at hl 3 rfl) ?_
      refine lv_aload_n hx hb dX1_eventsOn_5 rfl (lv_at hl 0 rfl) ?_
      refine va_get (D := D) (ci := 1) (v := .int (nI zz)) (C := RX1) (T := TX1) (N := 4) hx hb hts mu_X1 hown hK hP 0 rfl rfl 0 (by decide) (hts _ (List.mem_cons_of_mem _ mw_95)) (fun _ h9 => h9) rfl dX1_eventsOn_6 ?_
      refine lv_icmp_ge (tgt := 39) hx hb dX1_eventsOn_9 (by decide) (fun c_9 => ?_) (fun c_9 => ?_)
      · have c_9 := (nI_leI (by omega) (by omega)).mp c_9
        refine lv_iload_n hx hb dX1_eventsOn_39 rfl (lv_at hl 2 rfl) ?_
        exact W.iret (v := (nI f)) hx hb hr (fun t ht hW => ⟨_, rfl, (by rw [hf, show i = zz by omega]), ht⟩) (fun q h => nomatch h) dX1_eventsOn_40
      · have c_9 := mt (nI_leI (by omega) (by omega)).mpr c_9
        refine lv_aload_n hx hb dX1_eventsOn_12 rfl (lv_at hl 0 rfl) ?_
        refine va_get (D := D) (ci := 1) (v := .ref ss) (C := RX1) (T := TX1) (N := 4) hx hb hts mu_X1 hown hK hP 0 rfl rfl 2 (by decide) (hts _ (List.mem_cons_of_mem _ mw_98)) (fun _ h9 => h9) rfl dX1_eventsOn_13 ?_
        refine lv_iload_n hx hb dX1_eventsOn_16 rfl (lv_at hl 3 rfl) ?_
        refine rk_zald hx hb hK hP 2 2 rfl rfl (i := i) (by omega) (by decide) dX1_eventsOn_17 ?_
        refine lv_if_ne (tgt := 30) hx hb dX1_eventsOn_18 (by decide) (fun c_18 => ?_) (fun c_18 => ?_)
        · skip
          refine lv_iinc (v := nI (f + 1)) (lv' := [(2, .int (nI (f + 1))), (0, .ref s0), (1, .ref g0), (3, .int (nI i))]) hx hb dX1_eventsOn_30 hl (k := 2) rfl (by rw [show Int32.ofInt 1 = nI 1 by decide, nI_add]) (by decide) rfl (fun ls hl => ?_)
          refine lv_iinc (v := nI (i + 1)) (lv' := [(3, .int (nI (i + 1))), (2, .int (nI (f + 1))), (0, .ref s0), (1, .ref g0)]) hx hb dX1_eventsOn_33 hl (k := 3) rfl (by rw [show Int32.ofInt 1 = nI 1 by decide, nI_add]) (by decide) rfl (fun ls hl => ?_)
          refine lv_goto (tgt := 4) hx hb dX1_eventsOn_36 (by decide) ?_
          exact ih_4 (f + 1) (i + 1) (by omega) (by omega) (by first | rw [cnt_1 (Pr := fun t => (sa t ≠ 0 ∨ itb ka sa (fun x => thr (n, kf, rf, sf, vf, wf, cf, pf, bf) x (nI r)) t)) (Or.inl c_18), hf] | rw [cnt_1 (Pr := fun t => (sa t ≠ 0 ∨ itb ka sa (fun x => thr (n, kf, rf, sf, vf, wf, cf, pf, bf) x (nI r)) t)) (Or.inr hw_24), hf] | rw [cnt_0 (Pr := fun t => (sa t ≠ 0 ∨ itb ka sa (fun x => thr (n, kf, rf, sf, vf, wf, cf, pf, bf) x (nI r)) t)) (fun z => z.elim (fun z => z c_18) hw_24), hf]) ls (lv_sub hl [2, 3, 1, 0] rfl)
        · skip
          refine lv_aload_n hx hb dX1_eventsOn_21 rfl (lv_at hl 0 rfl) ?_
          refine lv_iload_n hx hb dX1_eventsOn_22 rfl (lv_at hl 3 rfl) ?_
          refine lv_aload_n hx hb dX1_eventsOn_23 rfl (lv_at hl 1 rfl) ?_
          refine ro_callVi (As := [.int (nI i), .ref g0]) (rest := []) ⟨hx, hb, hml, hown, hts⟩ (c_X1_isThereBefore l D cI cJ cZ s0 sk ss sv zz ka sa va (hs01) (by omega) i (by omega) g0 gk gr gs gv gw gc gp gb r n kf rf sf vf wf cf pf bf (by omega)) (cwV 2 hts (wB_V mw_325 mw_327 ms_6 mw_4 mw_328) rfl rfl rfl (by decide +kernel) ⟨Nat.le_of_ble_eq_true rfl, Nat.le_of_ble_eq_true rfl⟩) (va_recv hK hP (ci := 1) (q0 := 0) rfl rfl) (hP.sub (ws' := [(s0, .inr (1, [.int (nI zz), .ref sk, .ref ss, .ref sv])), (sk, .inl (cI, 20, .inl ka)), (ss, .inl (cZ, 20, .inl sa)), (sv, .inl (cJ, 20, .inr (.inl va))), (g0, .inr (0, [.int (nI r), .int (nI n), .ref gk, .ref gr, .ref gs, .ref gv, .ref gw, .ref gc, .ref gp, .ref gb])), (gk, .inl (cI, 300, .inl kf)), (gr, .inl (cI, 300, .inl rf)), (gs, .inl (cZ, 300, .inl sf)), (gv, .inl (cJ, 300, .inr (.inl vf))), (gw, .inl (cI, 300, .inl wf)), (gc, .inl (cI, 300, .inl cf)), (gp, .inl (cI, 300, .inl pf)), (gb, .inl (cI, 300, .inl bf))]) [0, 1, 2, 3, 4, 5, 6, 7, 8, 9, 10, 11, 12] rfl) hK rfl hl.1 (Nat.le_of_ble_eq_true rfl) ⟨Nat.le_of_ble_eq_true rfl, Nat.le_of_ble_eq_true rfl⟩ rfl dX1_eventsOn_24 (fun r_24 hw_24 => ?_)
          try dsimp only at hw_24
          rcases hw_24 with ⟨rfl, hw_24⟩ | ⟨rfl, hw_24⟩
          · skip
            refine lv_if_eq (tgt := 33) hx hb dX1_eventsOn_27 (by decide) (fun c => absurd c (by decide)) (fun _ => ?_)
            refine lv_iinc (v := nI (f + 1)) (lv' := [(2, .int (nI (f + 1))), (0, .ref s0), (1, .ref g0), (3, .int (nI i))]) hx hb dX1_eventsOn_30 hl (k := 2) rfl (by rw [show Int32.ofInt 1 = nI 1 by decide, nI_add]) (by decide) rfl (fun ls hl => ?_)
            refine lv_iinc (v := nI (i + 1)) (lv' := [(3, .int (nI (i + 1))), (2, .int (nI (f + 1))), (0, .ref s0), (1, .ref g0)]) hx hb dX1_eventsOn_33 hl (k := 3) rfl (by rw [show Int32.ofInt 1 = nI 1 by decide, nI_add]) (by decide) rfl (fun ls hl => ?_)
            refine lv_goto (tgt := 4) hx hb dX1_eventsOn_36 (by decide) ?_
            exact ih_4 (f + 1) (i + 1) (by omega) (by omega) (by first | rw [cnt_1 (Pr := fun t => (sa t ≠ 0 ∨ itb ka sa (fun x => thr (n, kf, rf, sf, vf, wf, cf, pf, bf) x (nI r)) t)) (Or.inl c_18), hf] | rw [cnt_1 (Pr := fun t => (sa t ≠ 0 ∨ itb ka sa (fun x => thr (n, kf, rf, sf, vf, wf, cf, pf, bf) x (nI r)) t)) (Or.inr hw_24), hf] | rw [cnt_0 (Pr := fun t => (sa t ≠ 0 ∨ itb ka sa (fun x => thr (n, kf, rf, sf, vf, wf, cf, pf, bf) x (nI r)) t)) (fun z => z.elim (fun z => z c_18) hw_24), hf]) ls (lv_sub hl [2, 3, 1, 0] rfl)
          · skip
            refine lv_if_eq (tgt := 33) hx hb dX1_eventsOn_27 (by decide) (fun _ => ?_) (fun c => absurd (by decide) c)
            refine lv_iinc (v := nI (i + 1)) (lv' := [(3, .int (nI (i + 1))), (0, .ref s0), (1, .ref g0), (2, .int (nI f))]) hx hb dX1_eventsOn_33 hl (k := 3) rfl (by rw [show Int32.ofInt 1 = nI 1 by decide, nI_add]) (by decide) rfl (fun ls hl => ?_)
            refine lv_goto (tgt := 4) hx hb dX1_eventsOn_36 (by decide) ?_
            exact ih_4 f (i + 1) (by omega) (by omega) (by first | rw [cnt_1 (Pr := fun t => (sa t ≠ 0 ∨ itb ka sa (fun x => thr (n, kf, rf, sf, vf, wf, cf, pf, bf) x (nI r)) t)) (Or.inl c_18), hf] | rw [cnt_1 (Pr := fun t => (sa t ≠ 0 ∨ itb ka sa (fun x => thr (n, kf, rf, sf, vf, wf, cf, pf, bf) x (nI r)) t)) (Or.inr hw_24), hf] | rw [cnt_0 (Pr := fun t => (sa t ≠ 0 ∨ itb ka sa (fun x => thr (n, kf, rf, sf, vf, wf, cf, pf, bf) x (nI r)) t)) (fun z => z.elim (fun z => z c_18) hw_24), hf]) ls (lv_sub hl [1, 2, 3, 0] rfl)
  -- on to the loop
  exact hloop_4 ((zz - 0) + 1) 0 0 (Nat.lt_succ_self _) (by omega) (rfl) ls (lv_sub hl [2, 3, 1, 0] rfl)
set_option maxHeartbeats 4000000 in
set_option maxRecDepth 100000 in
theorem c_X1_applyTo (l : Launch) (D : va_G) (cI cJ cZ : ClassId) (sz : Nat) (s0 sk ss sv zz : Nat) (ka sa : Nat → Int32) (va : Nat → Int64) (hzz : zz ≤ 20) (g0 gk gr gs gv gw gc gp gb r n : Nat) (kf rf sf : Nat → Int32) (vf : Nat → Int64) (wf cf pf bf : Nat → Int32) (hr3 : r ≤ 300) (hok : ∀ i d, i ≤ zz → aps r ka sa va (n, kf, rf, sf, vf, wf, cf, pf, bf) i d → eN d ≤ 300 ∧ ∃ bn, bnk d bn) (hroom : ∀ i d, i < zz → aps r ka sa va (n, kf, rf, sf, vf, wf, cf, pf, bf) i d → (sa i ≠ 0 ∨ thr d (ka i) (nI r)) → eN d < 300) : Met l yX1_applyTo (Cond.code yX1_applyTo cX1_applyTo 3 none :: wB) ({ frames := 3, cells := 0, slots := 0, locals := 70 } : Room) (rw_Pc D cI cJ cZ sz [.ref s0, .ref g0] [(s0, .inr (1, [.int (nI zz), .ref sk, .ref ss, .ref sv])), (sk, .inl (cI, 20, .inl ka)), (ss, .inl (cZ, 20, .inl sa)), (sv, .inl (cJ, 20, .inr (.inl va))), (g0, .inr (0, [.int (nI r), .int (nI n), .ref gk, .ref gr, .ref gs, .ref gv, .ref gw, .ref gc, .ref gp, .ref gb])), (gk, .inl (cI, 300, .inl kf)), (gr, .inl (cI, 300, .inl rf)), (gs, .inl (cZ, 300, .inl sf)), (gv, .inl (cJ, 300, .inr (.inl vf))), (gw, .inl (cI, 300, .inl wf)), (gc, .inl (cI, 300, .inl cf)), (gp, .inl (cI, 300, .inl pf)), (gb, .inl (cI, 300, .inl bf))]) (rw_Qv (S := LD) D cI cJ cZ sz [(s0, .inr (1, [.int (nI zz), .ref sk, .ref ss, .ref sv])), (sk, .inl (cI, 20, .inl ka)), (ss, .inl (cZ, 20, .inl sa)), (sv, .inl (cJ, 20, .inr (.inl va))), (g0, .inr (0, [.int (nI r), .int (nI n), .ref gk, .ref gr, .ref gs, .ref gv, .ref gw, .ref gc, .ref gp, .ref gb])), (gk, .inl (cI, 300, .inl kf)), (gr, .inl (cI, 300, .inl rf)), (gs, .inl (cZ, 300, .inl sf)), (gv, .inl (cJ, 300, .inr (.inl vf))), (gw, .inl (cI, 300, .inl wf)), (gc, .inl (cI, 300, .inl cf)), (gp, .inl (cI, 300, .inl pf)), (gb, .inl (cI, 300, .inl bf))] (fun u => [(s0, .inr (1, [.int (nI zz), .ref sk, .ref ss, .ref sv])), (sk, .inl (cI, 20, .inl ka)), (ss, .inl (cZ, 20, .inl sa)), (sv, .inl (cJ, 20, .inr (.inl va))), (g0, .inr (0, [.int (nI r), .int (nI u.1), .ref gk, .ref gr, .ref gs, .ref gv, .ref gw, .ref gc, .ref gp, .ref gb])), (gk, .inl (cI, 300, .inl u.2.1)), (gr, .inl (cI, 300, .inl u.2.2.1)), (gs, .inl (cZ, 300, .inl u.2.2.2.1)), (gv, .inl (cJ, 300, .inr (.inl u.2.2.2.2.1))), (gw, .inl (cI, 300, .inl u.2.2.2.2.2.1)), (gc, .inl (cI, 300, .inl u.2.2.2.2.2.2.1)), (gp, .inl (cI, 300, .inl u.2.2.2.2.2.2.2.1)), (gb, .inl (cI, 300, .inl u.2.2.2.2.2.2.2.2))]) (fun u => aps r ka sa va (n, kf, rf, sf, vf, wf, cf, pf, bf) zz u)) 0 0 (va_A [(s0, .inr (1, [.int (nI zz), .ref sk, .ref ss, .ref sv])), (sk, .inl (cI, 20, .inl ka)), (ss, .inl (cZ, 20, .inl sa)), (sv, .inl (cJ, 20, .inr (.inl va))), (g0, .inr (0, [.int (nI r), .int (nI n), .ref gk, .ref gr, .ref gs, .ref gv, .ref gw, .ref gc, .ref gp, .ref gb])), (gk, .inl (cI, 300, .inl kf)), (gr, .inl (cI, 300, .inl rf)), (gs, .inl (cZ, 300, .inl sf)), (gv, .inl (cJ, 300, .inr (.inl vf))), (gw, .inl (cI, 300, .inl wf)), (gc, .inl (cI, 300, .inl cf)), (gp, .inl (cI, 300, .inl pf)), (gb, .inl (cI, 300, .inl bf))] sz) := by
  refine Met.ofW (cc := cX1_applyTo) (maxL := 3) (ret := none) (by decide) rfl ?_
  intro p e s m args below meth c s₁ B hml hv
  obtain ⟨rfl, hsz, hP, hK, hD0⟩ := hv
  have hx := B.exec
  have hb := B.bytes
  have hr := B.returns
  have hts := atoms_spec (ws := (Cond.code yX1_applyTo cX1_applyTo 3 none :: wB)) B.pre
  have hown : s.vm.findClass RX1 = some m.cls := findClass_of_methodNamed B.named
  have hlocks := B.notSynchronized
  subst hsz
  have hD := hD0.self (sz := s.heap.size)
  obtain ⟨A, hAe⟩ : ∃ A, A = va_A [(s0, .inr (1, [.int (nI zz), .ref sk, .ref ss, .ref sv])), (sk, .inl (cI, 20, .inl ka)), (ss, .inl (cZ, 20, .inl sa)), (sv, .inl (cJ, 20, .inr (.inl va))), (g0, .inr (0, [.int (nI r), .int (nI n), .ref gk, .ref gr, .ref gs, .ref gv, .ref gw, .ref gc, .ref gp, .ref gb])), (gk, .inl (cI, 300, .inl kf)), (gr, .inl (cI, 300, .inl rf)), (gs, .inl (cZ, 300, .inl sf)), (gv, .inl (cJ, 300, .inr (.inl vf))), (gw, .inl (cI, 300, .inl wf)), (gc, .inl (cI, 300, .inl cf)), (gp, .inl (cI, 300, .inl pf)), (gb, .inl (cI, 300, .inl bf))] s.heap.size := ⟨_, rfl⟩
  rw [← hAe] at hD
  have hA : ∀ q : Nat, s.heap.size ≤ q → A q := fun q h => by rw [hAe]; exact Or.inr h
  have hS : va_S A s.heap s.heap [] := va_S.rf
  have hl := lv_entry ([.ref s0, .ref g0]) (n := 3) (Nat.le_of_ble_eq_true rfl)
  rw [lg_entry_eq]
  generalize (lg_sl ([.ref s0, .ref g0]) ++ List.replicate (3 - (lg_sl ([.ref s0, .ref g0])).length) Slot.unset).toArray = ls at hl ⊢
  have hl : lv_has ls 3 [(0, .ref s0), (1, .ref g0)] := hl
  refine lv_iconst (v := nI 0) hx hb dX1_applyTo_0 (by decide) ?_
  refine lv_istore_n (lv' := [(2, .int (nI 0)), (0, .ref s0), (1, .ref g0)]) hx hb dX1_applyTo_1 rfl hl (by decide) rfl (fun ls hl => ?_)
  have hloop_2 : ∀ (k : Nat) (i : Nat) (n1 : Nat) (kf1 : Nat → Int32) (rf1 : Nat → Int32) (sf1 : Nat → Int32) (vf1 : Nat → Int64) (wf1 : Nat → Int32) (cf1 : Nat → Int32) (pf1 : Nat → Int32) (bf1 : Nat → Int32), zz - i < k → i ≤ zz → aps r ka sa va (n, kf, rf, sf, vf, wf, cf, pf, bf) i (n1, kf1, rf1, sf1, vf1, wf1, cf1, pf1, bf1) → ∀ (H : Heap) (locs : List Loc), va_P D vwCl [(s0, .inr (1, [.int (nI zz), .ref sk, .ref ss, .ref sv])), (sk, .inl (cI, 20, .inl ka)), (ss, .inl (cZ, 20, .inl sa)), (sv, .inl (cJ, 20, .inr (.inl va))), (g0, .inr (0, [.int (nI r), .int (nI n1), .ref gk, .ref gr, .ref gs, .ref gv, .ref gw, .ref gc, .ref gp, .ref gb])), (gk, .inl (cI, 300, .inl kf1)), (gr, .inl (cI, 300, .inl rf1)), (gs, .inl (cZ, 300, .inl sf1)), (gv, .inl (cJ, 300, .inr (.inl vf1))), (gw, .inl (cI, 300, .inl wf1)), (gc, .inl (cI, 300, .inl cf1)), (gp, .inl (cI, 300, .inl pf1)), (gb, .inl (cI, 300, .inl bf1))] H → va_D A [(s0, .inr (1, [.int (nI zz), .ref sk, .ref ss, .ref sv])), (sk, .inl (cI, 20, .inl ka)), (ss, .inl (cZ, 20, .inl sa)), (sv, .inl (cJ, 20, .inr (.inl va))), (g0, .inr (0, [.int (nI r), .int (nI n1), .ref gk, .ref gr, .ref gs, .ref gv, .ref gw, .ref gc, .ref gp, .ref gb])), (gk, .inl (cI, 300, .inl kf1)), (gr, .inl (cI, 300, .inl rf1)), (gs, .inl (cZ, 300, .inl sf1)), (gv, .inl (cJ, 300, .inr (.inl vf1))), (gw, .inl (cI, 300, .inl wf1)), (gc, .inl (cI, 300, .inl cf1)), (gp, .inl (cI, 300, .inl pf1)), (gb, .inl (cI, 300, .inl bf1))] → va_S A s.heap H locs → ∀ (ls : Array Slot), lv_has ls 3 [(0, .ref s0), (1, .ref g0), (2, .int (nI i))] → W p l e ({ frames := 3, cells := 0, slots := 0, locals := 70 } : Room) s m ([.ref s0, .ref g0] : List Value).toArray below meth c H locs 0 0 (MQ below (rw_Qv (S := LD) D cI cJ cZ s.heap.size [(s0, .inr (1, [.int (nI zz), .ref sk, .ref ss, .ref sv])), (sk, .inl (cI, 20, .inl ka)), (ss, .inl (cZ, 20, .inl sa)), (sv, .inl (cJ, 20, .inr (.inl va))), (g0, .inr (0, [.int (nI r), .int (nI n), .ref gk, .ref gr, .ref gs, .ref gv, .ref gw, .ref gc, .ref gp, .ref gb])), (gk, .inl (cI, 300, .inl kf)), (gr, .inl (cI, 300, .inl rf)), (gs, .inl (cZ, 300, .inl sf)), (gv, .inl (cJ, 300, .inr (.inl vf))), (gw, .inl (cI, 300, .inl wf)), (gc, .inl (cI, 300, .inl cf)), (gp, .inl (cI, 300, .inl pf)), (gb, .inl (cI, 300, .inl bf))] (fun u => [(s0, .inr (1, [.int (nI zz), .ref sk, .ref ss, .ref sv])), (sk, .inl (cI, 20, .inl ka)), (ss, .inl (cZ, 20, .inl sa)), (sv, .inl (cJ, 20, .inr (.inl va))), (g0, .inr (0, [.int (nI r), .int (nI u.1), .ref gk, .ref gr, .ref gs, .ref gv, .ref gw, .ref gc, .ref gp, .ref gb])), (gk, .inl (cI, 300, .inl u.2.1)), (gr, .inl (cI, 300, .inl u.2.2.1)), (gs, .inl (cZ, 300, .inl u.2.2.2.1)), (gv, .inl (cJ, 300, .inr (.inl u.2.2.2.2.1))), (gw, .inl (cI, 300, .inl u.2.2.2.2.2.1)), (gc, .inl (cI, 300, .inl u.2.2.2.2.2.2.1)), (gp, .inl (cI, 300, .inl u.2.2.2.2.2.2.2.1)), (gb, .inl (cI, 300, .inl u.2.2.2.2.2.2.2.2))]) (fun u => aps r ka sa va (n, kf, rf, sf, vf, wf, cf, pf, bf) zz u)) ([.ref s0, .ref g0] : List Value).toArray s 0 0 (va_A [(s0, .inr (1, [.int (nI zz), .ref sk, .ref ss, .ref sv])), (sk, .inl (cI, 20, .inl ka)), (ss, .inl (cZ, 20, .inl sa)), (sv, .inl (cJ, 20, .inr (.inl va))), (g0, .inr (0, [.int (nI r), .int (nI n), .ref gk, .ref gr, .ref gs, .ref gv, .ref gw, .ref gc, .ref gp, .ref gb])), (gk, .inl (cI, 300, .inl kf)), (gr, .inl (cI, 300, .inl rf)), (gs, .inl (cZ, 300, .inl sf)), (gv, .inl (cJ, 300, .inr (.inl vf))), (gw, .inl (cI, 300, .inl wf)), (gc, .inl (cI, 300, .inl cf)), (gp, .inl (cI, 300, .inl pf)), (gb, .inl (cI, 300, .inl bf))] s.heap.size)) (F0 m 2 ls []) := by
    intro k
    induction k with
    | zero => intro i n1 kf1 rf1 sf1 vf1 wf1 cf1 pf1 bf1 hm; exact absurd hm (Nat.not_lt_zero _)
    | succ k ih_2 =>
      intro i n1 kf1 rf1 sf1 vf1 wf1 cf1 pf1 bf1 hm_2 hi hap H locs hP hD hS ls hl
      obtain ⟨hn1, bn, hbn⟩ := hok i _ hi hap
      have hn1 : n1 ≤ 300 := hn1
      refine lv_iload_n hx hb dX1_applyTo_2 rfl (lv_at hl 2 rfl) ?_
      refine lv_aload_n hx hb dX1_applyTo_3 rfl (lv_at hl 0 rfl) ?_
      refine va_get (D := D) (ci := 1) (v := .int (nI zz)) (C := RX1) (T := TX1) (N := 4) hx hb hts mu_X1 hown hK hP 0 rfl rfl 0 (by decide) (hts _ (List.mem_cons_of_mem _ mw_95)) (fun _ h9 => h9) rfl dX1_applyTo_4 ?_
      refine lv_icmp_ge (tgt := 54) hx hb dX1_applyTo_7 (by decide) (fun c_7 => ?_) (fun c_7 => ?_)
      · have c_7 := (nI_leI (by omega) (by omega)).mp c_7
        exact rw_retv (u := (n1, kf1, rf1, sf1, vf1, wf1, cf1, pf1, bf1)) hAe (hP) (hD) hS hK (by rw [show zz = i by omega]; exact hap) (Nat.le_of_ble_eq_true rfl) (Nat.le_of_ble_eq_true rfl) hx hb hr hlocks dX1_applyTo_54
      · have c_7 := mt (nI_leI (by omega) (by omega)).mpr c_7
        refine lv_aload_n hx hb dX1_applyTo_10 rfl (lv_at hl 0 rfl) ?_
        refine va_get (D := D) (ci := 1) (v := .ref ss) (C := RX1) (T := TX1) (N := 4) hx hb hts mu_X1 hown hK hP 0 rfl rfl 2 (by decide) (hts _ (List.mem_cons_of_mem _ mw_98)) (fun _ h9 => h9) rfl dX1_applyTo_11 ?_
        refine lv_iload_n hx hb dX1_applyTo_14 rfl (lv_at hl 2 rfl) ?_
        refine rk_zald hx hb hK hP 2 2 rfl rfl (i := i) (by omega) (by decide) dX1_applyTo_15 ?_
        refine lv_if_eq (tgt := 38) hx hb dX1_applyTo_16 (by decide) (fun c_16 => ?_) (fun c_16 => ?_)
        · skip
          refine lv_aload_n hx hb dX1_applyTo_38 rfl (lv_at hl 1 rfl) ?_
          refine lv_aload_n hx hb dX1_applyTo_39 rfl (lv_at hl 0 rfl) ?_
          refine va_get (D := D) (ci := 1) (v := .ref sk) (C := RX1) (T := TX1) (N := 4) hx hb hts mu_X1 hown hK hP 0 rfl rfl 1 (by decide) (hts _ (List.mem_cons_of_mem _ mw_97)) (fun _ h9 => h9) rfl dX1_applyTo_40 ?_
          refine lv_iload_n hx hb dX1_applyTo_43 rfl (lv_at hl 2 rfl) ?_
          refine rk_iald hx hb hK hP 1 0 rfl rfl (i := i) (by omega) (by decide) dX1_applyTo_44 ?_
          refine rw_callVv (wr := [(s0, .inr (1, [.int (nI zz), .ref sk, .ref ss, .ref sv])), (sk, .inl (cI, 20, .inl ka)), (ss, .inl (cZ, 20, .inl sa)), (sv, .inl (cJ, 20, .inr (.inl va)))]) (As := [.int (ka i)]) (rest := []) ⟨hx, hb, hml, hown, hts⟩ (c_X0_appendRemoval l D cI cJ cZ H.size g0 gk gr gs gv gw gc gp gb r n1 kf1 rf1 sf1 vf1 wf1 cf1 pf1 bf1 bn (by omega) (by omega) (hbn) (ka i) (fun z => hroom i _ (by omega) hap (Or.inr z))) (cwV 1 hts (wB_V mw_335 mw_245 mw_246 mw_2 mw_247) rfl rfl rfl (by decide +kernel) ⟨Nat.le_of_ble_eq_true rfl, Nat.le_of_ble_eq_true rfl⟩) (va_recv hK hP (ci := 0) (q0 := 4) rfl rfl) hK hP hD hS hA [4, 5, 6, 7, 8, 9, 10, 11, 12] [0, 1, 2, 3] rfl rfl rfl (by decide) (by decide) (by decide) rfl hl.1 (Nat.le_of_ble_eq_true rfl) ⟨Nat.le_of_ble_eq_true rfl, Nat.le_of_ble_eq_true rfl⟩ rfl dX1_applyTo_45 (fun u_45 H locs hw_45 hP hD hS => ?_)
          try dsimp only at hw_45
          have hP : va_P D vwCl [(s0, .inr (1, [.int (nI zz), .ref sk, .ref ss, .ref sv])), (sk, .inl (cI, 20, .inl ka)), (ss, .inl (cZ, 20, .inl sa)), (sv, .inl (cJ, 20, .inr (.inl va))), (g0, .inr (0, [.int (nI r), .int (nI u_45.1), .ref gk, .ref gr, .ref gs, .ref gv, .ref gw, .ref gc, .ref gp, .ref gb])), (gk, .inl (cI, 300, .inl u_45.2.1)), (gr, .inl (cI, 300, .inl u_45.2.2.1)), (gs, .inl (cZ, 300, .inl sf1)), (gv, .inl (cJ, 300, .inr (.inl vf1))), (gw, .inl (cI, 300, .inl wf1)), (gc, .inl (cI, 300, .inl cf1)), (gp, .inl (cI, 300, .inl u_45.2.2.2.1)), (gb, .inl (cI, 300, .inl u_45.2.2.2.2))] H := hP.sub [0, 1, 2, 3, 4, 5, 6, 7, 8, 9, 10, 11, 12] rfl
          have hD : va_D A [(s0, .inr (1, [.int (nI zz), .ref sk, .ref ss, .ref sv])), (sk, .inl (cI, 20, .inl ka)), (ss, .inl (cZ, 20, .inl sa)), (sv, .inl (cJ, 20, .inr (.inl va))), (g0, .inr (0, [.int (nI r), .int (nI u_45.1), .ref gk, .ref gr, .ref gs, .ref gv, .ref gw, .ref gc, .ref gp, .ref gb])), (gk, .inl (cI, 300, .inl u_45.2.1)), (gr, .inl (cI, 300, .inl u_45.2.2.1)), (gs, .inl (cZ, 300, .inl sf1)), (gv, .inl (cJ, 300, .inr (.inl vf1))), (gw, .inl (cI, 300, .inl wf1)), (gc, .inl (cI, 300, .inl cf1)), (gp, .inl (cI, 300, .inl u_45.2.2.2.1)), (gb, .inl (cI, 300, .inl u_45.2.2.2.2))] := hD.sub [0, 1, 2, 3, 4, 5, 6, 7, 8, 9, 10, 11, 12] (by decide) rfl
          refine lv_iinc (v := nI (i + 1)) (lv' := [(2, .int (nI (i + 1))), (0, .ref s0), (1, .ref g0)]) hx hb dX1_applyTo_48 hl (k := 2) rfl (by rw [show Int32.ofInt 1 = nI 1 by decide, nI_add]) (by decide) rfl (fun ls hl => ?_)
          refine lv_goto (tgt := 2) hx hb dX1_applyTo_51 (by decide) ?_
          exact ih_2 (i + 1) u_45.1 u_45.2.1 u_45.2.2.1 sf1 vf1 wf1 cf1 u_45.2.2.2.1 u_45.2.2.2.2 (by omega) (by omega) (by first | exact ⟨_, hap, Or.inl ⟨c_16, rfl, rfl, rfl, rfl, rfl, ⟨bn, hbn, hw_32.1⟩, hw_32.2⟩⟩ | exact ⟨_, hap, Or.inr ⟨c_16, rem_of hbn hw_45⟩⟩) H locs hP hD hS ls (lv_sub hl [1, 2, 0] rfl)
        · have hroo := hroom i _ (by omega) hap (Or.inl c_16)
          have hroo : n1 < 300 := hroo
          refine lv_aload_n hx hb dX1_applyTo_19 rfl (lv_at hl 1 rfl) ?_
          refine lv_aload_n hx hb dX1_applyTo_20 rfl (lv_at hl 0 rfl) ?_
          refine va_get (D := D) (ci := 1) (v := .ref sk) (C := RX1) (T := TX1) (N := 4) hx hb hts mu_X1 hown hK hP 0 rfl rfl 1 (by decide) (hts _ (List.mem_cons_of_mem _ mw_97)) (fun _ h9 => h9) rfl dX1_applyTo_21 ?_
          refine lv_iload_n hx hb dX1_applyTo_24 rfl (lv_at hl 2 rfl) ?_
          refine rk_iald hx hb hK hP 1 0 rfl rfl (i := i) (by omega) (by decide) dX1_applyTo_25 ?_
          refine lv_aload_n hx hb dX1_applyTo_26 rfl (lv_at hl 0 rfl) ?_
          refine va_get (D := D) (ci := 1) (v := .ref sv) (C := RX1) (T := TX1) (N := 4) hx hb hts mu_X1 hown hK hP 0 rfl rfl 3 (by decide) (hts _ (List.mem_cons_of_mem _ mw_99)) (fun _ h9 => h9) rfl dX1_applyTo_27 ?_
          refine lv_iload_n hx hb dX1_applyTo_30 rfl (lv_at hl 2 rfl) ?_
          refine rk_lald hx hb hK hP 3 1 rfl rfl (i := i) (by omega) (by decide) dX1_applyTo_31 ?_
          refine rw_callVv (wr := [(s0, .inr (1, [.int (nI zz), .ref sk, .ref ss, .ref sv])), (sk, .inl (cI, 20, .inl ka)), (ss, .inl (cZ, 20, .inl sa)), (sv, .inl (cJ, 20, .inr (.inl va)))]) (As := [.int (ka i), .long (va i)]) (rest := []) ⟨hx, hb, hml, hown, hts⟩ (c_X0_appendSet l D cI cJ cZ H.size g0 gk gr gs gv gw gc gp gb r n1 kf1 rf1 sf1 vf1 wf1 cf1 pf1 bf1 bn (by omega) (by omega) (hbn) (ka i) (va i)) (cwV 2 hts (wB_V mw_334 mw_218 mw_219 mw_2 mw_220) rfl rfl rfl (by decide +kernel) ⟨Nat.le_of_ble_eq_true rfl, Nat.le_of_ble_eq_true rfl⟩) (va_recv hK hP (ci := 0) (q0 := 4) rfl rfl) hK hP hD hS hA [4, 5, 6, 7, 8, 9, 10, 11, 12] [0, 1, 2, 3] rfl rfl rfl (by decide) (by decide) (by decide) rfl hl.1 (Nat.le_of_ble_eq_true rfl) ⟨Nat.le_of_ble_eq_true rfl, Nat.le_of_ble_eq_true rfl⟩ rfl dX1_applyTo_32 (fun u_32 H locs hw_32 hP hD hS => ?_)
          try dsimp only at hw_32
          have hP : va_P D vwCl [(s0, .inr (1, [.int (nI zz), .ref sk, .ref ss, .ref sv])), (sk, .inl (cI, 20, .inl ka)), (ss, .inl (cZ, 20, .inl sa)), (sv, .inl (cJ, 20, .inr (.inl va))), (g0, .inr (0, [.int (nI r), .int (nI (n1 + 1)), .ref gk, .ref gr, .ref gs, .ref gv, .ref gw, .ref gc, .ref gp, .ref gb])), (gk, .inl (cI, 300, .inl (upd kf1 n1 (ka i)))), (gr, .inl (cI, 300, .inl (upd rf1 n1 (nI r)))), (gs, .inl (cZ, 300, .inl (upd sf1 n1 (nI 1)))), (gv, .inl (cJ, 300, .inr (.inl (vp_updL vf1 n1 (va i))))), (gw, .inl (cI, 300, .inl u_32.2.2.1)), (gc, .inl (cI, 300, .inl u_32.2.2.2)), (gp, .inl (cI, 300, .inl u_32.1)), (gb, .inl (cI, 300, .inl u_32.2.1))] H := hP.sub [0, 1, 2, 3, 4, 5, 6, 7, 8, 9, 10, 11, 12] rfl
          have hD : va_D A [(s0, .inr (1, [.int (nI zz), .ref sk, .ref ss, .ref sv])), (sk, .inl (cI, 20, .inl ka)), (ss, .inl (cZ, 20, .inl sa)), (sv, .inl (cJ, 20, .inr (.inl va))), (g0, .inr (0, [.int (nI r), .int (nI (n1 + 1)), .ref gk, .ref gr, .ref gs, .ref gv, .ref gw, .ref gc, .ref gp, .ref gb])), (gk, .inl (cI, 300, .inl (upd kf1 n1 (ka i)))), (gr, .inl (cI, 300, .inl (upd rf1 n1 (nI r)))), (gs, .inl (cZ, 300, .inl (upd sf1 n1 (nI 1)))), (gv, .inl (cJ, 300, .inr (.inl (vp_updL vf1 n1 (va i))))), (gw, .inl (cI, 300, .inl u_32.2.2.1)), (gc, .inl (cI, 300, .inl u_32.2.2.2)), (gp, .inl (cI, 300, .inl u_32.1)), (gb, .inl (cI, 300, .inl u_32.2.1))] := hD.sub [0, 1, 2, 3, 4, 5, 6, 7, 8, 9, 10, 11, 12] (by decide) rfl
          refine lv_goto (tgt := 48) hx hb dX1_applyTo_35 (by decide) ?_
          refine lv_iinc (v := nI (i + 1)) (lv' := [(2, .int (nI (i + 1))), (0, .ref s0), (1, .ref g0)]) hx hb dX1_applyTo_48 hl (k := 2) rfl (by rw [show Int32.ofInt 1 = nI 1 by decide, nI_add]) (by decide) rfl (fun ls hl => ?_)
          refine lv_goto (tgt := 2) hx hb dX1_applyTo_51 (by decide) ?_
          exact ih_2 (i + 1) (n1 + 1) (upd kf1 n1 (ka i)) (upd rf1 n1 (nI r)) (upd sf1 n1 (nI 1)) (vp_updL vf1 n1 (va i)) u_32.2.2.1 u_32.2.2.2 u_32.1 u_32.2.1 (by omega) (by omega) (by first | exact ⟨_, hap, Or.inl ⟨c_16, rfl, rfl, rfl, rfl, rfl, ⟨bn, hbn, hw_32.1⟩, hw_32.2⟩⟩ | exact ⟨_, hap, Or.inr ⟨c_16, rem_of hbn hw_45⟩⟩) H locs hP hD hS ls (lv_sub hl [1, 2, 0] rfl)
  -- on to the loop
  exact hloop_2 ((zz - 0) + 1) 0 n kf rf sf vf wf cf pf bf (Nat.lt_succ_self _) (by omega) (rfl) _ _ hP hD hS ls (lv_sub hl [1, 2, 0] rfl)
end
