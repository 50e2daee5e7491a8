/-! ===== an exception that a callee threw, caught by a row of the method's own table (the row's class entry may still be unresolved) ===== -/
section SCA
theorem hc_row {Qh : Handler → Pre} {E : CtlPost} {e : Env} {d : Bool} {acts : List Action} {s : State} {f : JFrame} {a : Addr} {x : ExceptionTableEntry} {t : List ExceptionTableEntry} {c : ClassId} {cell : Cell} (b : Bool) (hx : covers x f.pc = true) (h0 : x.catchType ≠ 0)
    (hl : s.vm.ClassLinks e.platform f.method.cls x.catchType c) (hcell : s.heap[a]? = some cell) (hobj : ∀ k, cell.vm ≠ .statics k) (hk : ∃ k, s.vm.classes[cell.cls]? = some k) (hc : ∃ k, s.vm.classes[c]? = some k) (hb : s.vm.assignable cell.cls c = b) :
    wp (findHandler.go f a (x :: t)) Qh E e d acts s ↔ if b = true then Qh (.found x.handlerPc) d acts (s.setVm (s.vm.noted f.method.cls x.catchType (.cls c))) else wp (findHandler.go f a t) Qh E e d acts (s.setVm (s.vm.noted f.method.cls x.catchType (.cls c))) := by
  simp only [covers] at hx
  obtain ⟨g1, g2⟩ := (resolveClass_links e.toSetting hl).op (op := VmOp.resolveClass f.method.cls x.catchType) rfl
  have hal : s.vm.Alike (s.vm.noted f.method.cls x.catchType (.cls c)) := (Vm.Alike.refl s.vm).noted _ _ _
  obtain ⟨k1, hk1⟩ := hk
  obtain ⟨k2, hk2⟩ := hc
  obtain ⟨k3, hk3, -⟩ := hal.2.2 _ _ hk1
  obtain ⟨k4, hk4, -⟩ := hal.2.2 _ _ hk2
  have hb' : (s.vm.noted f.method.cls x.catchType (.cls c)).assignable cell.cls c = b := by rw [hal.assignable]; exact hb
  cases b <;> simp [findHandler.go, hx, h0, g1, g2, hcell, hobj, hk3, hk4, hb', VmOp.dirties, VmOp.acts]
/-- how a row stands to what was thrown: past it, or into it -/
def hc_R (e : Env) (s₀ : State) (d : ClassId) (pc : Nat) (thrown : ClassId) (b : Bool) (y : ExceptionTableEntry) : Prop := (b = false ∧ covers y pc = false) ∨ (covers y pc = true ∧ y.catchType ≠ 0 ∧ ∃ c, s₀.vm.ClassLinks e.platform d y.catchType c ∧ s₀.vm.assignable thrown c = b)
theorem hc_step {e : Env} {s₀ S : State} {f : JFrame} {a : Addr} {cell : Cell} {b : Bool} {y : ExceptionTableEntry} (hobj : ∀ k, cell.vm ≠ .statics k) (hk0 : ∃ k, s₀.vm.classes[cell.cls]? = some k) (hW : s₀.WarmedH S.vm) (hcell : S.heap[a]? = some cell) (hy : hc_R e s₀ f.method.cls f.pc cell.cls b y) :
    ∃ vm', s₀.WarmedH vm' ∧ ∀ (Qh : Handler → Pre) (E : CtlPost) (d : Bool) (acts : List Action) (t : List ExceptionTableEntry), wp (findHandler.go f a (y :: t)) Qh E e d acts S ↔ if b = true then Qh (.found y.handlerPc) d acts (S.setVm vm') else wp (findHandler.go f a t) Qh E e d acts (S.setVm vm') := by
  rcases hy with ⟨hb, hcov⟩ | ⟨hcov, h0, c, hl, hb⟩
  · subst hb
    exact ⟨S.vm, hW, fun Qh E d acts t => by rw [W.findHandler_go_skip hcov, State.setVm_self]; simp⟩
  · obtain ⟨k0, hk0⟩ := hk0
    obtain ⟨k1, hk1, -⟩ := hW.alike.2.2 _ _ hk0
    obtain ⟨dk, _, _, kt, hd, _, _, _, _, hkt, _, hopn⟩ := hl.here
    obtain ⟨k2, hk2, -⟩ := hW.alike.2.2 _ _ hkt
    exact ⟨_, hW.noted hd hopn (State.rightAt_cls hl), fun Qh E d acts t => hc_row b hcov h0 (hW.classLinks hl) hcell hobj ⟨k1, hk1⟩ ⟨k2, hk2⟩ (by rw [hW.alike.assignable]; exact hb)⟩
theorem hc_list {e : Env} {s₀ : State} {f : JFrame} {a : Addr} {cell : Cell} (hobj : ∀ k, cell.vm ≠ .statics k) (hk0 : ∃ k, s₀.vm.classes[cell.cls]? = some k) {x : ExceptionTableEntry} {suf : List ExceptionTableEntry} (hx : hc_R e s₀ f.method.cls f.pc cell.cls true x) :
    ∀ (pre : List ExceptionTableEntry) (S : State), s₀.WarmedH S.vm → S.heap[a]? = some cell → (∀ y ∈ pre, hc_R e s₀ f.method.cls f.pc cell.cls false y) → ∃ vm', s₀.WarmedH vm' ∧ ∀ (Qh : Handler → Pre) (E : CtlPost) (d : Bool) (acts : List Action), wp (findHandler.go f a (pre ++ x :: suf)) Qh E e d acts S ↔ Qh (.found x.handlerPc) d acts (S.setVm vm')
  | [], S, hW, hcell, _ => by
    obtain ⟨vm', h1, h2⟩ := hc_step hobj hk0 hW hcell hx
    exact ⟨vm', h1, fun Qh E d acts => by rw [List.nil_append, h2]; simp⟩
  | y :: ys, S, hW, hcell, hp => by
    obtain ⟨v1, h1, h2⟩ := hc_step hobj hk0 hW hcell (hp y List.mem_cons_self)
    obtain ⟨v2, h3, h4⟩ := hc_list hobj hk0 hx ys (S.setVm v1) h1 hcell (fun z hz => hp z (List.mem_cons_of_mem _ hz))
    exact ⟨v2, h3, fun Qh E d acts => by rw [List.cons_append, h2]; simp only [Bool.false_eq_true, if_false]; exact h4 Qh E d acts⟩
variable {p : Program} {l : Launch} {e : Env} {R : Room} {s : State} {m : MethodId} {args : Array Value} {below : List Frame} {meth : Method} {c : Code} {H : Heap} {locs : List Loc} {cells slots : Nat} {Q : State → Prop} {pc : Nat} {ls : Array Slot} {rest : List Value}
theorem hc_catch {ce : Cell} {q : Addr} (pre : List ExceptionTableEntry) (x : ExceptionTableEntry) (suf : List ExceptionTableEntry) (hsplit : c.exceptionTable.toList = pre ++ x :: suf)
    (hpass : l.admits e → ∀ z ∈ pre, hc_R e s m.cls pc ce.cls false z) (hx : l.admits e → hc_R e s m.cls pc ce.cls true x) (hcell : H[q]? = some ce) (hv : ce.vm = .none) (hk : ∃ k, s.vm.classes[ce.cls]? = some k)
    (kk : W p l e R s m args below meth c H locs cells slots Q (F0 m x.handlerPc ls [.ref q])) : vx_W p l e R s m args below meth c H locs cells slots Q (F0 m pc ls rest) q := by
  intro T hT X
  obtain ⟨vm', hW', hf⟩ := hc_list (f := F0 m pc ls rest) (a := q) (cell := ce) (suf := suf) (fun k h => by rw [hv] at h; cases h) hk (hx X.admits) pre ((T.setTop (F0 m pc ls rest)).pushFrame (.throwing q)) (by rw [throwing_vm]; exact X.warmed) (by rw [throwing_heap, hT]; exact hcell) (hpass X.admits)
  have X' := X.noted hW'
  obtain ⟨t, a1, b1⟩ := kk (T.setVm vm') hT X'
  refine ⟨t, ?_, b1⟩
  have hAt : At T (F0 m pc ls rest).method c below := X.here
  obtain ⟨hgo, hw⟩ := hAt.throwing q
  refine Steps.head hgo hw ?_
  obtain ⟨g₀, hg⟩ := Option.isSome_iff_exists.mp X.here.top
  obtain ⟨r, hr⟩ := State.topJava?_eq_some.mp hg
  have hr' : (T.setVm vm').frames = .java g₀ :: r := hr
  have hmeth : ((T.setTop (F0 m pc ls rest)).pushFrame (.throwing q)).vm.method? m = some meth := by rw [throwing_vm]; exact X.method'
  have hfind : ∀ (Qh : Handler → Pre) (E : CtlPost) (d : Bool) (acts : List Action), wp (findHandler (F0 m pc ls rest) q) Qh E e d acts ((T.setTop (F0 m pc ls rest)).pushFrame (.throwing q)) ↔ Qh (.found x.handlerPc) d acts (((T.setTop (F0 m pc ls rest)).pushFrame (.throwing q)).setVm vm') := fun Qh E d acts => by
    rw [W.findHandler_eq hmeth X.code, hsplit]
    exact hf Qh E d acts
  have hstep : (stepThrowing e ((T.setTop (F0 m pc ls rest)).pushFrame (.throwing q)) q (.java (F0 m pc ls rest) :: r)).1 = (((T.setTop (F0 m pc ls rest)).pushFrame (.throwing q)).setVm vm').setFrames (.java { (F0 m pc ls rest) with pc := x.handlerPc, stack := [.ref q] } :: r) := by
    simp only [stepThrowing, searchFrame, vmDo]
    generalize hres : Sem.go _ e false [] _ = res
    obtain ⟨as, rfl, -⟩ := Sem.eq_ok_of hres (a := Handler.found x.handlerPc) (s' := ((T.setTop (F0 m pc ls rest)).pushFrame (.throwing q)).setVm vm') (acts' := []) (by simp [hfind])
    rfl
  rw [stepThread_throwing (frames_entered hAt.top _)]
  rw [hr, List.tail_cons, hstep]
  have e1 : (((T.setTop (F0 m pc ls rest)).pushFrame (.throwing q)).setVm vm').setFrames (.java { (F0 m pc ls rest) with pc := x.handlerPc, stack := [.ref q] } :: r) = (T.setVm vm').setTop (F0 m x.handlerPc ls [.ref q]) := by
    rw [State.setTop_of_frames _ hr', State.pushFrame, State.setTop_of_frames _ hr]
    have e2 : ∀ (u : State) (F G : List Frame), ((u.setFrames F).setVm vm').setFrames G = (u.setVm vm').setFrames G := fun u F G => by
      have h1 : (u.setFrames F).setVm vm' = (u.setVm vm').setFrames F := rfl
      rw [h1, State.setFrames_setFrames]
    rw [e2, e2]
  rw [e1]
  exact a1
end SCA
