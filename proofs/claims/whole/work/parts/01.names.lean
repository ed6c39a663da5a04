/-! ===== BEGIN words of one list among another's, by their places ===== -/
theorem goodIn_r {big : List Cond} (ws : List Cond) (ps : List Nat) (hp : ws = ps.filterMap (fun i => big[i]?)) (h : ws.all goodWord = true) : GoodIn big ws := by
  intro w hw
  have h1 := List.all_eq_true.mp h w hw
  rw [hp] at hw
  obtain ⟨i, -, hi⟩ := List.mem_filterMap.mp hw
  have hm : w ∈ big := by first | exact List.mem_of_getElem? hi | exact List.getElem?_mem hi
  exact ⟨hm, good_of_word h1⟩
theorem goodIn_app {big a b : List Cond} (ha : GoodIn big a) (hb : GoodIn big b) : GoodIn big (a ++ b) := fun w h => (List.mem_append.mp h).elim (ha w) (hb w)
theorem goodIn_ca {big a b : List Cond} {c : Cond} (ha : GoodIn big (c :: a)) (hb : GoodIn big b) : GoodIn big (c :: (a ++ b)) := fun w h => (List.mem_cons.mp h).elim (fun e => ha w (List.mem_cons.mpr (Or.inl e))) (fun h => (List.mem_append.mp h).elim (fun h => ha w (List.mem_cons.mpr (Or.inr h))) (hb w))
theorem goodIn_sub {big ws : List Cond} (hm : ∀ w ∈ ws, w ∈ big) (h : ws.all goodWord = true) : GoodIn big ws := fun w hw => ⟨hm w hw, good_of_word (List.all_eq_true.mp h w hw)⟩
/-! ===== END ===== -/

/-! ===== BEGIN exceptions that leave a method, and their catching by the caller (launches without stack traces) ===== -/
section VXA
/-! The laws vx_back, vx_callV, vx_callS, vx_callSW, vx_throw0, vx_throwS follow proofs of the library, with one case more: JvmDerived/Free/Laws.lean (Back.of_free), Shelf42/LK1.lean (callV, callS), Shelf/KitTraced.lean (throwNew0V, throwNewS). -/
open Bundle
/-- where a method has thrown q: the class by its name, the cell, what was written, the world -/
def vx_T (XC : String → State → State → Prop) (st : State) (q : Addr) (t : State) (mc ms : Nat) (free : Addr → Prop) : Prop :=
  ∃ (E : String) (ce : Cell) (L : List Loc), XC E st t ∧ t.heap[q]? = some ce ∧ ce.vm = .none ∧ st.vm.findClass E = some ce.cls ∧ st.WarmedH t.vm ∧ st.sameButNew ({ t with vm := st.vm } : State) L mc ms ∧ ∀ z ∈ L, free z.base
def vx_Q (Qc : Array Value → State → Outcome → State → Prop) (XC : String → State → State → Prop) (mc ms : Nat) (free : Addr → Prop) : Array Value → State → Outcome → State → Prop := fun a st o t =>
  (Qc a st o t ∧ ∃ L, FrameEnd st o t L mc ms ∧ ∀ q ∈ L, free q.base) ∨ ∃ q, o = .threw q ∧ vx_T XC st q t mc ms free
/-- a callee that returns or throws -/
def vx_Met (l : Launch) (y : MethodName) (ws : List Cond) (rm : Room) (Pc : Array Value → State → Prop) (Qc : Array Value → State → Outcome → State → Prop) (XC : String → State → State → Prop) (mc ms : Nat) (free : Addr → Prop) : Prop :=
  MetFree l y (headSpec ws rm) Pc (fun _ _ _ _ _ => True) (vx_Q Qc XC mc ms free)
def vx_Post (XC : String → State → State → Prop) (mc ms : Nat) (free : Addr → Prop) : Pt → Array Value → Addr → Pt → Prop := fun A a q B =>
  ∃ (g : JFrame) (mk : MethodId) (t : State) (L : List Loc) (E : String) (ce : Cell), B.U.heap = t.heap ∧ B.U.vm = t.vm ∧ XC E (A.U.calling g mk a) t ∧ t.heap[q]? = some ce ∧ ce.vm = .none ∧ A.U.vm.findClass E = some ce.cls ∧ B.locs = A.locs ++ L ∧ (∀ z ∈ L, free z.base) ∧ B.cells = A.cells + mc ∧ B.slots = A.slots + ms
def vx_Back (l : Launch) (R : Room) (p : Program) (e : Env) (below : List Frame) (s : State) (sargs : Array Value) (y : MethodName) (len W9 : Nat)
    (Pre : Pt → Array Value → Prop) (Post : Pt → Array Value → Option Value → Pt → Prop) (PostX : Pt → Array Value → Addr → Pt → Prop) : Prop :=
  ∀ (m : MethodId) (meth : Method) (c : Code) (A : Pt) (g : JFrame) (ig : Instr) (mk : MethodId) (a : Array Value),
    Stand p l e R s m sargs below meth c A.U A.locs A.cells A.slots → g.method = m → g.locals.size = c.maxLocals → decode c.code g.pc = .ok (ig, len) →
    2 * g.monitorRoom + (g.stack.map fun v => v.category).sum ≤ W9 → A.U.methodNamed? y = some mk → Pre A a →
    (∃ (v : Option Value) (B : Pt), Stand p l e R s m sargs below meth c B.U B.locs B.cells B.slots ∧ Post A a v B ∧
      Steps p.tables e below (doInvoke e (A.U.setTop g) [] mk a).1 (B.U.setTop { g with pc := g.pc + len, stack := v.toList ++ g.stack })) ∨
    (∃ (q : Addr) (B : Pt), Stand p l e R s m sargs below meth c B.U B.locs B.cells B.slots ∧ PostX A a q B ∧
      Steps p.tables e below (doInvoke e (A.U.setTop g) [] mk a).1 ((B.U.setTop g).pushFrame (.throwing q)))
section Payer
variable {l : Launch} {R : Room} {p : Program} {e : Env} {below : List Frame} {s : State} {sargs : Array Value} {y : MethodName} {len W9 : Nat}
theorem vx_back {ws : List Cond} {rm : Room} {Pc : Array Value → State → Prop} {Qc : Array Value → State → Outcome → State → Prop} {XC : String → State → State → Prop} {mc ms : Nat} {free : Addr → Prop} {bytes : ByteArray} {maxL : Nat} {ret : Option FieldType}
    (hM : vx_Met l y ws rm Pc Qc XC mc ms free) (hblind : FrameBlind Pc) (hrc : rm.cells = mc) (hrs : rm.slots = ms)
    (hframes : rm.frames + 1 ≤ R.frames) (hlocals : W9 + (maxL + 11) + rm.locals ≤ R.locals)
    (hws : ∀ w ∈ ws, ∀ a' U, s.WarmedH U.vm → w.before a' U = true) (hcode : Cond.code y bytes maxL ret ∈ ws) (hinit : ∀ a' U, s.WarmedH U.vm → (Cond.initialized y.cls).before a' U = true) :
    vx_Back l R p e below s sargs y len W9 (PreOf R mc ms Pc) (PostOf Qc mc ms free) (vx_Post XC mc ms free) := by
  intro m meth c A g ig mk a X hg hsize hdg hW hn hp
  have h1 : (headSpec ws rm).pre.before a A.U = true := atoms_intro fun w hw => hws w hw _ _ X.warmed
  have h2 : (Cond.code y bytes maxL ret).before a A.U = true := hws _ hcode _ _ X.warmed
  have h3 : (Cond.initialized y.cls).before a A.U = true := hinit _ _ X.warmed
  have h4 : A.cells + (headSpec ws rm).room.cells ≤ R.cells := by rw [show (headSpec ws rm).room.cells = mc from hrc]; exact hp.1
  have h5 : A.slots + (headSpec ws rm).room.slots ≤ R.slots := by rw [show (headSpec ws rm).room.slots = ms from hrs]; exact hp.2.1
  have hPc : Pc a (A.U.calling g mk a) := hblind _ _ _ _ hp.2.2
  obtain ⟨U, Ls, c0, s0⟩ := A
  dsimp only [Pt.U, Pt.locs, Pt.cells, Pt.slots] at h1 h2 h3 h4 h5 X hn hPc ⊢
  obtain ⟨methY, cY, hmY, hcY, -, hlY, -, -, -, -⟩ := Cond.code_spec hn h2
  obtain ⟨kY, hkY, -⟩ := className_of_methodNamed hn
  have hinitY : kY.init = .initialized := Cond.initialized_spec (findClass_of_methodNamed hn) hkY h3
  have h : At U g.method c below := by rw [hg]; exact X.here
  have hlocals9 : W9 + (maxL + 11) + (headSpec ws rm).room.locals ≤ R.locals := hlocals
  have happ : (headSpec ws rm).appliesLoose y e.platform (U.calling g mk a) = true :=
    Spec.appliesLoose_calling (g := g) h hdg hn hkY hinitY
      (X.room_calling (g := g) (R' := (headSpec ws rm).room) hsize hmY hcY hframes (by rw [hlY]; omega) h4 h5) h1
  obtain ⟨mid, hmid⟩ := h.above
  have hfr : (U.setTop g).frames = (.java g :: mid) ++ below := by rw [State.frames_setTop' g h.top, hmid]; rfl
  obtain ⟨o, s₂, hsteps, -, hend, hq⟩ := Steps.callFree hM p X.admits X.cas X.clock (acts := []) hfr happ hPc trivial
  have hq' : vx_Q Qc XC mc ms free a (U.calling g mk a) o s₂ := hq
  rw [State.frames_setTop' g h.top] at hend
  obtain ⟨g₀, hg0⟩ := Option.isSome_iff_exists.mp h.top
  obtain ⟨r, hr⟩ := State.topJava?_eq_some.mp hg0
  have hr' : (({ U with heap := s₂.heap, slotsUsed := s₂.slotsUsed } : State).setVm s₂.vm).frames = .java g₀ :: r := hr
  rcases hq' with ⟨hqc, L, hfe, hL⟩ | ⟨q, rfl, E, ce, L, hx, hce, hcv, hcl, hW₂, hsm, hL⟩
  · obtain ⟨⟨v, rfl⟩, hW₂, e2, q2, q3, q4, q5, q6⟩ := id hfe
    have e3 : s₂ = ({ (U.calling g mk a).setFrames s₂.frames with heap := s₂.heap, slotsUsed := s₂.slotsUsed } : State).setVm s₂.vm := by
      have : s₂ = ({ s₂ with vm := (U.calling g mk a).vm } : State).setVm s₂.vm := rfl
      rw [e2] at this
      exact this
    obtain ⟨c₂, i₂, len₂, hc₂, hd₂, hf₂⟩ := hend
    have hW' : U.WarmedH s₂.vm := hW₂
    have hcc : c₂ = c := by
      have h1 : s₂.code? g.method = U.code? g.method := by
        rw [State.code?_eq, State.code?_eq, hW'.alike.method?]
      exact Option.some.inj (hc₂.symm.trans (h1.trans h.code))
    subst hcc
    have hlen : len₂ = len := by rw [hdg] at hd₂; cases hd₂; rfl
    subst hlen
    have hs₂ : s₂ = (({ U with heap := s₂.heap, slotsUsed := s₂.slotsUsed } : State).setVm s₂.vm).setTop { g with pc := g.pc + len₂, stack := v.toList ++ g.stack } := by
      refine e3.trans ?_
      rw [hf₂, State.calling_eq h.top, State.setFrames_setFrames, State.setTop_of_frames _ hr', hr]
      rfl
    have hsame : U.sameButNew ({ U with heap := s₂.heap, slotsUsed := s₂.slotsUsed } : State) L mc ms := by
      refine ⟨?_, q2, q3, q4, q5, q6⟩
      obtain ⟨t, ht, -⟩ := State.frames_cons hr
      show ({ U with heap := s₂.heap, slotsUsed := s₂.slotsUsed } : State) = { U.setFrames U.frames with heap := s₂.heap, slotsUsed := s₂.slotsUsed }
      rw [State.setFrames_self ht]
    subst hg
    refine Or.inl ⟨v, ⟨(({ U with heap := s₂.heap, slotsUsed := s₂.slotsUsed } : State).setVm s₂.vm), Ls ++ L, c0 + mc, s0 + ms⟩,
      ⟨X.admits, X.cas, X.clock, X.frames, X.room, X.hears, X.method, X.code, (X.here.setHeapUsed s₂.heap s₂.slotsUsed).setVm hW'.alike, X.tail, State.WarmedH.trans X.warmed hW', X.limits, X.bytes, X.same.trans (hsame.setVm s.vm)⟩,
      ⟨g, mk, s₂, L, rfl, rfl, hqc, rfl, hL, rfl, rfl⟩, ?_⟩
    show Steps p.tables e below _ ((({ U with heap := s₂.heap, slotsUsed := s₂.slotsUsed } : State).setVm s₂.vm).setTop { g with pc := g.pc + len₂, stack := v.toList ++ g.stack })
    rw [← hs₂]
    exact hsteps
  · obtain ⟨e2, q2, q3, q4, q5, q6⟩ := id hsm
    have e3 : s₂ = ({ (U.calling g mk a).setFrames s₂.frames with heap := s₂.heap, slotsUsed := s₂.slotsUsed } : State).setVm s₂.vm := by
      have : s₂ = ({ s₂ with vm := (U.calling g mk a).vm } : State).setVm s₂.vm := rfl
      rw [e2] at this
      exact this
    have hf₂ : s₂.frames = .throwing q :: .java g :: U.frames.tail := hend
    have hW' : U.WarmedH s₂.vm := hW₂
    have hs₂ : s₂ = ((({ U with heap := s₂.heap, slotsUsed := s₂.slotsUsed } : State).setVm s₂.vm).setTop g).pushFrame (.throwing q) := by
      refine e3.trans ?_
      rw [hf₂, State.calling_eq h.top, State.setFrames_setFrames, State.pushFrame, State.frames_setTop _ hr', State.setTop_of_frames _ hr', State.setFrames_setFrames, hr]
      rfl
    have hsame : U.sameButNew ({ U with heap := s₂.heap, slotsUsed := s₂.slotsUsed } : State) L mc ms := by
      refine ⟨?_, q2, q3, q4, q5, q6⟩
      obtain ⟨t, ht, -⟩ := State.frames_cons hr
      show ({ U with heap := s₂.heap, slotsUsed := s₂.slotsUsed } : State) = { U.setFrames U.frames with heap := s₂.heap, slotsUsed := s₂.slotsUsed }
      rw [State.setFrames_self ht]
    subst hg
    refine Or.inr ⟨q, ⟨(({ U with heap := s₂.heap, slotsUsed := s₂.slotsUsed } : State).setVm s₂.vm), Ls ++ L, c0 + mc, s0 + ms⟩,
      ⟨X.admits, X.cas, X.clock, X.frames, X.room, X.hears, X.method, X.code, (X.here.setHeapUsed s₂.heap s₂.slotsUsed).setVm hW'.alike, X.tail, State.WarmedH.trans X.warmed hW', X.limits, X.bytes, X.same.trans (hsame.setVm s.vm)⟩,
      ⟨g, mk, s₂, L, E, ce, rfl, rfl, hx, hce, hcv, hcl, rfl, hL, rfl, rfl⟩, ?_⟩
    show Steps p.tables e below _ (((({ U with heap := s₂.heap, slotsUsed := s₂.slotsUsed } : State).setVm s₂.vm).setTop g).pushFrame (.throwing q))
    rw [← hs₂]
    exact hsteps
end Payer
section Calls
variable {p : Program} {l : Launch} {e : Env} {R : Room} {s : State} {m : MethodId} {args : Array Value} {below : List Frame} {meth : Method} {c : Code} {T : State} {locs : List Loc} {cells slots : Nat}
theorem vx_callV (X : Stand p l e R s m args below meth c T locs cells slots) (hexec : p.tables.exec = Jvm.exec) {own C : String} {index : Nat} {y : MethodName} {bytes : ByteArray} {maxL : Nat} {ret : Option FieldType}
    (hown : s.vm.findClass own = some m.cls) (hlink : (Cond.methodLink own index y).before args s = true) (hinst : (Cond.instanceMethod y).before args s = true) (hsel : (Cond.selects C y y).before args s = true)
    (hcode : (Cond.code y bytes maxL ret).before args s = true) (hy : y.cls ≠ "java/lang/invoke/MethodHandle" ∧ y.cls ≠ "java/lang/invoke/VarHandle")
    {W9 : Nat} {Pre : Pt → Array Value → Prop} {Post : Pt → Array Value → Option Value → Pt → Prop} {PostX : Pt → Array Value → Addr → Pt → Prop} (hK : vx_Back l R p e below s args y 3 W9 Pre Post PostX)
    {b : Addr} {cellB : Cell} (hcell : T.heap[b]? = some cellB) (hobj : cellB.vm.isStatics = false) (hcls : s.vm.findClass C = some cellB.cls)
    {g : JFrame} (hg : g.method = m) (hsize : g.locals.size = c.maxLocals) {argsL rest : List Value} (hlen : ∀ sig, parseMethodDescriptor y.desc = some sig → argsL.length = sig.parameters.length)
    (hstack : g.stack = argsL.reverse ++ .ref b :: rest) (hW : 2 * g.monitorRoom + (rest.map fun v => v.category).sum ≤ W9) (hdg : decode c.code g.pc = .ok (.invokevirtual index, 3))
    (hpre : ∀ vm₁, s.WarmedH vm₁ → Pre ⟨T.setVm vm₁, locs, cells, slots⟩ (Value.ref b :: argsL).toArray) :
    (∃ (v : Option Value) (vm₁ : Vm) (B : Pt), s.WarmedH vm₁ ∧ Stand p l e R s m args below meth c B.U B.locs B.cells B.slots ∧ Post ⟨T.setVm vm₁, locs, cells, slots⟩ (Value.ref b :: argsL).toArray v B ∧
      ∀ target, Steps p.tables e below (B.U.setTop { g with pc := g.pc + 3, stack := v.toList ++ rest }) target → Steps p.tables e below (T.setTop g) target) ∨
    (∃ (q : Addr) (vm₁ : Vm) (B : Pt), s.WarmedH vm₁ ∧ Stand p l e R s m args below meth c B.U B.locs B.cells B.slots ∧ PostX ⟨T.setVm vm₁, locs, cells, slots⟩ (Value.ref b :: argsL).toArray q B ∧
      Steps p.tables e below (T.setTop g) ((B.U.setTop { g with stack := rest }).pushFrame (.throwing q))) := by
  obtain ⟨mk, methM, hnamed, hmethM, hstM, habM⟩ := Cond.instanceMethod_spec hinst
  obtain ⟨methM', cM, hmethM', -, -, -, -, -, -, hsigM⟩ := Cond.code_spec hnamed hcode
  cases hmethM.symm.trans hmethM'
  obtain ⟨c2, r2, m2, q1, q2, q3, q4, kP, hkP, hkPi⟩ := Cond.selects_spec hsel
  cases hcls.symm.trans q1
  cases (State.methodFound?_of_named hnamed hy).symm.trans q2
  cases hnamed.symm.trans q3
  have hselP : selectMethod e.platform s.vm cellB.cls mk = .method mk := by rw [Launch.admits_selectMethod X.admits]; exact q4
  obtain ⟨vm₁, X₁, hstep₁⟩ := X.invokevirtual hexec hown hlink hnamed hmethM hstM hkP hkPi hy (a := b) (cell := cellB) hcell
    (fun z h => by rw [h] at hobj; cases hobj) hselP hmethM habM hkP hkPi (g := g) hg (argsL := argsL) (rest := rest) (hlen _ hsigM) hstack hdg
  rcases hK m meth c ⟨T.setVm vm₁, locs, cells, slots⟩ { g with stack := rest } (.invokevirtual index) mk (Value.ref b :: argsL).toArray X₁ hg hsize hdg hW (X₁.named hnamed) (hpre vm₁ X₁.warmed) with ⟨v, B, X', hpost, hsteps⟩ | ⟨q, B, X', hpost, hsteps⟩
  · exact Or.inl ⟨v, vm₁, B, X₁.warmed, X', hpost, fun target h => hstep₁ _ fun acts => by rw [doInvoke_state]; exact hsteps.trans h⟩
  · exact Or.inr ⟨q, vm₁, B, X₁.warmed, X', hpost, hstep₁ _ fun acts => by rw [doInvoke_state]; exact hsteps⟩
theorem vx_callS (X : Stand p l e R s m args below meth c T locs cells slots) (hexec : p.tables.exec = Jvm.exec) {own : String} {index : Nat} {y : MethodName} {bytes : ByteArray} {maxL : Nat} {ret : Option FieldType}
    (hown : s.vm.findClass own = some m.cls) (hlink : (Cond.methodLink own index y).before args s = true) (hstat : (Cond.static y).before args s = true) (hinit : (Cond.initialized y.cls).before args s = true)
    (hcode : (Cond.code y bytes maxL ret).before args s = true) (hy : y.cls ≠ "java/lang/invoke/MethodHandle" ∧ y.cls ≠ "java/lang/invoke/VarHandle")
    {W9 : Nat} {Pre : Pt → Array Value → Prop} {Post : Pt → Array Value → Option Value → Pt → Prop} {PostX : Pt → Array Value → Addr → Pt → Prop} (hK : vx_Back l R p e below s args y 3 W9 Pre Post PostX)
    {g : JFrame} (hg : g.method = m) (hsize : g.locals.size = c.maxLocals) {argsL rest : List Value} (hlen : ∀ sig, parseMethodDescriptor y.desc = some sig → argsL.length = sig.parameters.length)
    (hstack : g.stack = argsL.reverse ++ rest) (hW : 2 * g.monitorRoom + (rest.map fun v => v.category).sum ≤ W9) (hdg : decode c.code g.pc = .ok (.invokestatic index, 3))
    (hpre : ∀ vm₁, s.WarmedH vm₁ → Pre ⟨T.setVm vm₁, locs, cells, slots⟩ argsL.toArray) :
    (∃ (v : Option Value) (vm₁ : Vm) (B : Pt), s.WarmedH vm₁ ∧ Stand p l e R s m args below meth c B.U B.locs B.cells B.slots ∧ Post ⟨T.setVm vm₁, locs, cells, slots⟩ argsL.toArray v B ∧
      ∀ target, Steps p.tables e below (B.U.setTop { g with pc := g.pc + 3, stack := v.toList ++ rest }) target → Steps p.tables e below (T.setTop g) target) ∨
    (∃ (q : Addr) (vm₁ : Vm) (B : Pt), s.WarmedH vm₁ ∧ Stand p l e R s m args below meth c B.U B.locs B.cells B.slots ∧ PostX ⟨T.setVm vm₁, locs, cells, slots⟩ argsL.toArray q B ∧
      Steps p.tables e below (T.setTop g) ((B.U.setTop { g with stack := rest }).pushFrame (.throwing q))) := by
  obtain ⟨mk, hnamed⟩ := Cond.code_named hcode
  obtain ⟨methM, cM, hmethM, -, -, -, -, -, -, hsigM⟩ := Cond.code_spec hnamed hcode
  have hstatic : methM.isStatic = true := Cond.static_spec hnamed hmethM hstat
  obtain ⟨kP, hkP, -⟩ := className_of_methodNamed hnamed
  have hinitP : kP.init = .initialized := Cond.initialized_spec (findClass_of_methodNamed hnamed) hkP hinit
  obtain ⟨vm₁, X₁, hstep₁⟩ := X.invokestatic hexec hown hlink hnamed hmethM hstatic hkP hinitP hy (g := g) hg (argsL := argsL) (rest := rest) (hlen _ hsigM) hstack hdg
  rcases hK m meth c ⟨T.setVm vm₁, locs, cells, slots⟩ { g with stack := rest } (.invokestatic index) mk argsL.toArray X₁ hg hsize hdg hW (X₁.named hnamed) (hpre vm₁ X₁.warmed) with ⟨v, B, X', hpost, hsteps⟩ | ⟨q, B, X', hpost, hsteps⟩
  · exact Or.inl ⟨v, vm₁, B, X₁.warmed, X', hpost, fun target h => hstep₁ _ fun acts => by rw [doInvoke_state]; exact hsteps.trans h⟩
  · exact Or.inr ⟨q, vm₁, B, X₁.warmed, X', hpost, hstep₁ _ fun acts => by rw [doInvoke_state]; exact hsteps⟩
end Calls
theorem vx_cls {s : State} {T : State} {vm₁ : Vm} {E : String} {k : ClassId} (hW : s.WarmedH vm₁) (h : (T.setVm vm₁).vm.findClass E = some k) : s.vm.findClass E = some k := by
  have h1 : vm₁.findClass E = some k := h
  rw [hW.alike.findClass] at h1
  exact h1
/-- the method's frame g, with q thrown over it -/
def vx_W (p : Program) (l : Launch) (e : Env) (R : Room) (s : State) (m : MethodId) (args : Array Value) (below : List Frame) (meth : Method) (c : Code) (H : Heap) (locs : List Loc) (cells slots : Nat) (Q : State → Prop) (g : JFrame) (q : Addr) : Prop :=
  ∀ T : State, T.heap = H → Stand p l e R s m args below meth c T locs cells slots → ∃ t, Steps p.tables e below ((T.setTop g).pushFrame (.throwing q)) t ∧ Q t
def vx_Run (p : Program) (l : Launch) (e : Env) (R : Room) (s : State) (m : MethodId) (args : Array Value) (below : List Frame) (meth : Method) (c : Code) (H : Heap) (locs : List Loc) (cells slots mc ms : Nat) (g : JFrame) (rest : List Value) (Qa : State → Outcome → State → Prop) (XC : String → State → State → Prop) (free : Addr → Prop) : Prop :=
  ∀ T : State, T.heap = H → Stand p l e R s m args below meth c T locs cells slots →
    (∃ (v : Option Value) (st₀ t T' : State) (L : List Loc), st₀.heap = H ∧ Stand p l e R s m args below meth c T' (locs ++ L) (cells + mc) (slots + ms) ∧ (∀ q ∈ L, free q.base) ∧ T'.heap = t.heap ∧ T'.vm = t.vm ∧ Qa st₀ (.returned v) t ∧
      Goes p e below T g T' { g with pc := g.pc + 3, stack := v.toList ++ rest }) ∨
    (∃ (q : Addr) (st₀ t T' : State) (L : List Loc) (E : String) (ce : Cell), st₀.heap = H ∧ Stand p l e R s m args below meth c T' (locs ++ L) (cells + mc) (slots + ms) ∧ (∀ z ∈ L, free z.base) ∧ T'.heap = t.heap ∧ T'.vm = t.vm ∧ XC E st₀ t ∧ t.heap[q]? = some ce ∧ ce.vm = .none ∧ s.vm.findClass E = some ce.cls ∧
      Steps p.tables e below (T.setTop g) ((T'.setTop { g with stack := rest }).pushFrame (.throwing q)))
def vx_X {S : Type} (px : S → Prop) (B : String → S → State → Prop) (A : Nat → Prop) : String → State → State → Prop := fun E st t => ∃ u : S, px u ∧ B E u t ∧ va_F A st t
section Runs
variable {p : Program} {l : Launch} {e : Env} {R : Room} {s : State} {m : MethodId} {args : Array Value} {below : List Frame} {meth : Method} {c : Code} {H : Heap} {locs : List Loc} {cells slots : Nat}
variable {y : MethodName} {bytes cc : ByteArray} {maxL nL mc ms n index : Nat} {ret : Option FieldType} {ws : List Cond} {rm : Room} {Pc : Array Value → State → Prop} {Qc : Array Value → State → Outcome → State → Prop} {XC : String → State → State → Prop} {free : Addr → Prop} {Ts : List Cond} {own C : String} {b : Addr} {As rest : List Value} {g : JFrame}
theorem vx_callBack (cb : CallB R s args own index y bytes maxL ret ws rm mc ms n) (hM : vx_Met l y ws rm Pc Qc XC mc ms free) (hbl : FrameBlind Pc) : vx_Back l R p e below s args y 3 8 (PreOf R mc ms Pc) (PostOf Qc mc ms free) (vx_Post XC mc ms free) := by
  obtain ⟨hrc, hrs, hfr, hlo, hws, hcw, -, hini, -⟩ := cb
  exact vx_back (bytes := bytes) (maxL := maxL) (ret := ret) hM hbl hrc hrs hfr hlo hws hcw (fun a' U hW => word_at hW (Or.inl (by first | rfl | simp [Cond.onTables, Cond.keeps, Cond.steady])) hini)
theorem vx_runV (S : CallFix p m c cc nL s args Ts own) (hM : vx_Met l y ws rm Pc Qc XC mc ms free) (cw : CallW R s args own C index y bytes maxL ret ws rm mc ms n) (hp : PreV s H C b Pc As)
    (hg : g.method = m) (hn : As.length = n) (hsize : g.locals.size = nL) (hstack : g.stack = As.reverse ++ .ref b :: rest) (hW : 2 * g.monitorRoom + (rest.map fun v => v.category).sum ≤ 8) (hdg : decode cc g.pc = .ok (.invokevirtual index, 3)) (hf : cells + mc ≤ R.cells ∧ slots + ms ≤ R.slots) :
    vx_Run p l e R s m args below meth c H locs cells slots mc ms g rest (Qc (Value.ref b :: As).toArray) XC free := by
  have hK : vx_Back l R p e below s args y 3 8 (PreOf R mc ms Pc) (PostOf Qc mc ms free) (vx_Post XC mc ms free) := vx_callBack cw.1 hM hp.1
  obtain ⟨⟨-, -, -, -, -, -, hcode, -, hy, hlen, hl⟩, hin, hse⟩ := cw
  obtain ⟨hx, hb, hml, ho, -⟩ := S
  obtain ⟨-, ⟨cellB, hcB, hoB, hclB⟩, hPc⟩ := hp
  intro T hT X
  rcases vx_callV X hx (C := C) (bytes := bytes) (maxL := maxL) (ret := ret) ho hl hin hse hcode hy hK (by rw [hT]; exact hcB) hoB hclB hg (hsize.trans hml.symm) (argsL := As) (rest := rest) (fun sig h => hn.trans (hlen sig h)) hstack hW (by rw [hb]; exact hdg)
    (fun vm₁ hW₁ => ⟨hf.1, hf.2, hPc (T.setVm vm₁) hT hW₁⟩) with ⟨v, vm₁, ⟨U', l2, c2, s2⟩, hW₁, X', ⟨g', mk, t, L, e1, e2, hq, h1, hL, h2, h3⟩, st⟩ | ⟨q, vm₁, ⟨U', l2, c2, s2⟩, hW₁, X', ⟨g', mk, t, L, E, ce, e1, e2, hq, hce, hcv, hcl, h1, hL, h2, h3⟩, st⟩
  · dsimp only [Pt.U, Pt.locs, Pt.cells, Pt.slots] at X' e1 e2 h1 h2 h3 st
    subst h1; subst h2; subst h3
    exact Or.inl ⟨v, (T.setVm vm₁).calling g' mk (Value.ref b :: As).toArray, t, U', L, hT, X', hL, e1, e2, hq, st⟩
  · dsimp only [Pt.U, Pt.locs, Pt.cells, Pt.slots] at X' e1 e2 h1 h2 h3 st hcl
    subst h1; subst h2; subst h3
    exact Or.inr ⟨q, (T.setVm vm₁).calling g' mk (Value.ref b :: As).toArray, t, U', L, E, ce, hT, X', hL, e1, e2, hq, hce, hcv, vx_cls hW₁ hcl, st⟩
theorem vx_runS (S : CallFix p m c cc nL s args Ts own) (hM : vx_Met l y ws rm Pc Qc XC mc ms free) (cw : CallB R s args own index y bytes maxL ret ws rm mc ms n ∧ (Cond.static y).before args s = true) (hp : PreS s H Pc As)
    (hg : g.method = m) (hn : As.length = n) (hsize : g.locals.size = nL) (hstack : g.stack = As.reverse ++ rest) (hW : 2 * g.monitorRoom + (rest.map fun v => v.category).sum ≤ 8) (hdg : decode cc g.pc = .ok (.invokestatic index, 3)) (hf : cells + mc ≤ R.cells ∧ slots + ms ≤ R.slots) :
    vx_Run p l e R s m args below meth c H locs cells slots mc ms g rest (Qc As.toArray) XC free := by
  have hK : vx_Back l R p e below s args y 3 8 (PreOf R mc ms Pc) (PostOf Qc mc ms free) (vx_Post XC mc ms free) := vx_callBack cw.1 hM hp.1
  obtain ⟨⟨-, -, -, -, -, -, hcode, hini, hy, hlen, hl⟩, hstt⟩ := cw
  obtain ⟨hx, hb, hml, ho, -⟩ := S
  intro T hT X
  rcases vx_callS X hx (bytes := bytes) (maxL := maxL) (ret := ret) ho hl hstt hini hcode hy hK hg (hsize.trans hml.symm) (argsL := As) (rest := rest) (fun sig h => hn.trans (hlen sig h)) hstack hW (by rw [hb]; exact hdg)
    (fun vm₁ hW₁ => ⟨hf.1, hf.2, hp.2 (T.setVm vm₁) hT hW₁⟩) with ⟨v, vm₁, ⟨U', l2, c2, s2⟩, hW₁, X', ⟨g', mk, t, L, e1, e2, hq, h1, hL, h2, h3⟩, st⟩ | ⟨q, vm₁, ⟨U', l2, c2, s2⟩, hW₁, X', ⟨g', mk, t, L, E, ce, e1, e2, hq, hce, hcv, hcl, h1, hL, h2, h3⟩, st⟩
  · dsimp only [Pt.U, Pt.locs, Pt.cells, Pt.slots] at X' e1 e2 h1 h2 h3 st
    subst h1; subst h2; subst h3
    exact Or.inl ⟨v, (T.setVm vm₁).calling g' mk As.toArray, t, U', L, hT, X', hL, e1, e2, hq, st⟩
  · dsimp only [Pt.U, Pt.locs, Pt.cells, Pt.slots] at X' e1 e2 h1 h2 h3 st hcl
    subst h1; subst h2; subst h3
    exact Or.inr ⟨q, (T.setVm vm₁).calling g' mk As.toArray, t, U', L, E, ce, hT, X', hL, e1, e2, hq, hce, hcv, vx_cls hW₁ hcl, st⟩
end Runs
section Rows
variable {p : Program} {l : Launch} {e : Env} {R : Room} {s : State} {m : MethodId} {args : Array Value} {below : List Frame} {meth : Method} {c : Code} {H : Heap} {locs : List Loc} {cells slots : Nat} {Q : State → Prop}
variable {mc ms : Nat} {free : Addr → Prop} {A0 A1 : Nat → Prop} {H0 : Heap} {a : Array Value} {pc : Nat} {ls : Array Slot} {st0 rest : List Value}
theorem vx_keep {st₀ t T' : State} {L : List Loc} (h0 : st₀.heap = H) (e1 : T'.heap = t.heap) (hS : va_S A0 H0 H locs) (hA : ∀ q, q < H.size → A1 q → A0 q) (hf : ∀ q, free q → A0 q) (hL : ∀ q ∈ L, free q.base) (hF : va_F A1 st₀ t) :
    H.size ≤ T'.heap.size ∧ (∀ q : Nat, q < H.size → ¬ A1 q → T'.heap[q]? = H[q]?) ∧ va_S A0 H0 T'.heap (locs ++ L) := by
  obtain ⟨hz, hk⟩ := hF
  rw [h0] at hz hk
  exact ⟨by rw [e1]; exact hz, fun q h1 h2 => by rw [e1]; exact hk q h1 h2,
    ⟨Nat.le_trans hS.1 (by rw [e1]; exact hz), fun q h1 h2 => by rw [e1, hk q (Nat.lt_of_lt_of_le h1 hS.1) (fun z => h2 (hA q (Nat.lt_of_lt_of_le h1 hS.1) z))]; exact hS.2.1 q h1 h2, fun q hq => by
      rcases List.mem_append.mp hq with h | h
      · exact hS.2.2 q h
      · exact hf _ (hL q h)⟩⟩
theorem vx_calli {S SX : Type} {post : Int32 → S → Prop} {px : SX → Prop} {B : S → State → Prop} {BX : String → SX → State → Prop} {AX : Nat → Prop} (hr : vx_Run p l e R s m args below meth c H locs cells slots mc ms (F0 m pc ls st0) rest (va_Qi post B A1 a) (vx_X px BX AX) free) (hS : va_S A0 H0 H locs) (hA : ∀ q, q < H.size → A1 q → A0 q) (hf : ∀ q, free q → A0 q) (hAX : ∀ q, q < H.size → AX q → A0 q)
    (kx : ∀ (E : String) (ce : Cell) (q9 : Addr) (u : SX) (t : State) (H1 : Heap) (locs1 : List Loc), t.heap = H1 → s.vm.Alike t.vm → px u → BX E u t → H.size ≤ H1.size → (∀ q : Nat, q < H.size → ¬ AX q → H1[q]? = H[q]?) → va_S A0 H0 H1 locs1 → H1[q9]? = some ce → ce.vm = .none → s.vm.findClass E = some ce.cls → vx_W p l e R s m args below meth c H1 locs1 (cells + mc) (slots + ms) Q (F0 m pc ls rest) q9)
    (kk : ∀ (r : Int32) (u : S) (t : State) (H1 : Heap) (locs1 : List Loc), t.heap = H1 → s.vm.Alike t.vm → post r u → B u t → H.size ≤ H1.size → (∀ q : Nat, q < H.size → ¬ A1 q → H1[q]? = H[q]?) → va_S A0 H0 H1 locs1 → W p l e R s m args below meth c H1 locs1 (cells + mc) (slots + ms) Q (F0 m (pc + 3) ls (.int r :: rest))) : W p l e R s m args below meth c H locs cells slots Q (F0 m pc ls st0) := by
  intro T hT X
  rcases hr T hT X with ⟨v, st₀, t, T', L, h0, X', hL, e1, e2, ⟨⟨r, u, hv, hp, hb⟩, hF⟩, st⟩ | ⟨q, st₀, t, T', L, E, ce, h0, X', hL, e1, e2, ⟨u, hp, hb, hF⟩, hce, hcv, hcl, st⟩
  · cases hv
    obtain ⟨k1, k2, k3⟩ := vx_keep h0 e1 hS hA hf hL hF
    obtain ⟨t2, a1, b1⟩ := kk r u t T'.heap (locs ++ L) e1.symm (by rw [← e2]; exact X'.warmed.alike) hp hb k1 k2 k3 T' rfl X'
    exact ⟨t2, st t2 a1, b1⟩
  · obtain ⟨k1, k2, k3⟩ := vx_keep h0 e1 hS hAX hf hL hF
    obtain ⟨t2, a1, b1⟩ := kx E ce q u t T'.heap (locs ++ L) e1.symm (by rw [← e2]; exact X'.warmed.alike) hp hb k1 k2 k3 (by rw [e1]; exact hce) hcv hcl T' rfl X'
    exact ⟨t2, st.trans a1, b1⟩
theorem vx_calll {S SX : Type} {post : Int64 → S → Prop} {px : SX → Prop} {B : S → State → Prop} {BX : String → SX → State → Prop} {AX : Nat → Prop} (hr : vx_Run p l e R s m args below meth c H locs cells slots mc ms (F0 m pc ls st0) rest (va_Ql post B A1 a) (vx_X px BX AX) free) (hS : va_S A0 H0 H locs) (hA : ∀ q, q < H.size → A1 q → A0 q) (hf : ∀ q, free q → A0 q) (hAX : ∀ q, q < H.size → AX q → A0 q)
    (kx : ∀ (E : String) (ce : Cell) (q9 : Addr) (u : SX) (t : State) (H1 : Heap) (locs1 : List Loc), t.heap = H1 → s.vm.Alike t.vm → px u → BX E u t → H.size ≤ H1.size → (∀ q : Nat, q < H.size → ¬ AX q → H1[q]? = H[q]?) → va_S A0 H0 H1 locs1 → H1[q9]? = some ce → ce.vm = .none → s.vm.findClass E = some ce.cls → vx_W p l e R s m args below meth c H1 locs1 (cells + mc) (slots + ms) Q (F0 m pc ls rest) q9)
    (kk : ∀ (r : Int64) (u : S) (t : State) (H1 : Heap) (locs1 : List Loc), t.heap = H1 → s.vm.Alike t.vm → post r u → B u t → H.size ≤ H1.size → (∀ q : Nat, q < H.size → ¬ A1 q → H1[q]? = H[q]?) → va_S A0 H0 H1 locs1 → W p l e R s m args below meth c H1 locs1 (cells + mc) (slots + ms) Q (F0 m (pc + 3) ls (.long r :: rest))) : W p l e R s m args below meth c H locs cells slots Q (F0 m pc ls st0) := by
  intro T hT X
  rcases hr T hT X with ⟨v, st₀, t, T', L, h0, X', hL, e1, e2, ⟨⟨r, u, hv, hp, hb⟩, hF⟩, st⟩ | ⟨q, st₀, t, T', L, E, ce, h0, X', hL, e1, e2, ⟨u, hp, hb, hF⟩, hce, hcv, hcl, st⟩
  · cases hv
    obtain ⟨k1, k2, k3⟩ := vx_keep h0 e1 hS hA hf hL hF
    obtain ⟨t2, a1, b1⟩ := kk r u t T'.heap (locs ++ L) e1.symm (by rw [← e2]; exact X'.warmed.alike) hp hb k1 k2 k3 T' rfl X'
    exact ⟨t2, st t2 a1, b1⟩
  · obtain ⟨k1, k2, k3⟩ := vx_keep h0 e1 hS hAX hf hL hF
    obtain ⟨t2, a1, b1⟩ := kx E ce q u t T'.heap (locs ++ L) e1.symm (by rw [← e2]; exact X'.warmed.alike) hp hb k1 k2 k3 (by rw [e1]; exact hce) hcv hcl T' rfl X'
    exact ⟨t2, st.trans a1, b1⟩
theorem vx_callf {S SX : Type} {post : UInt32 → S → Prop} {px : SX → Prop} {B : S → State → Prop} {BX : String → SX → State → Prop} {AX : Nat → Prop} (hr : vx_Run p l e R s m args below meth c H locs cells slots mc ms (F0 m pc ls st0) rest (va_Qf post B A1 a) (vx_X px BX AX) free) (hS : va_S A0 H0 H locs) (hA : ∀ q, q < H.size → A1 q → A0 q) (hf : ∀ q, free q → A0 q) (hAX : ∀ q, q < H.size → AX q → A0 q)
    (kx : ∀ (E : String) (ce : Cell) (q9 : Addr) (u : SX) (t : State) (H1 : Heap) (locs1 : List Loc), t.heap = H1 → s.vm.Alike t.vm → px u → BX E u t → H.size ≤ H1.size → (∀ q : Nat, q < H.size → ¬ AX q → H1[q]? = H[q]?) → va_S A0 H0 H1 locs1 → H1[q9]? = some ce → ce.vm = .none → s.vm.findClass E = some ce.cls → vx_W p l e R s m args below meth c H1 locs1 (cells + mc) (slots + ms) Q (F0 m pc ls rest) q9)
    (kk : ∀ (r : UInt32) (u : S) (t : State) (H1 : Heap) (locs1 : List Loc), t.heap = H1 → s.vm.Alike t.vm → post r u → B u t → H.size ≤ H1.size → (∀ q : Nat, q < H.size → ¬ A1 q → H1[q]? = H[q]?) → va_S A0 H0 H1 locs1 → W p l e R s m args below meth c H1 locs1 (cells + mc) (slots + ms) Q (F0 m (pc + 3) ls (.float r :: rest))) : W p l e R s m args below meth c H locs cells slots Q (F0 m pc ls st0) := by
  intro T hT X
  rcases hr T hT X with ⟨v, st₀, t, T', L, h0, X', hL, e1, e2, ⟨⟨r, u, hv, hp, hb⟩, hF⟩, st⟩ | ⟨q, st₀, t, T', L, E, ce, h0, X', hL, e1, e2, ⟨u, hp, hb, hF⟩, hce, hcv, hcl, st⟩
  · cases hv
    obtain ⟨k1, k2, k3⟩ := vx_keep h0 e1 hS hA hf hL hF
    obtain ⟨t2, a1, b1⟩ := kk r u t T'.heap (locs ++ L) e1.symm (by rw [← e2]; exact X'.warmed.alike) hp hb k1 k2 k3 T' rfl X'
    exact ⟨t2, st t2 a1, b1⟩
  · obtain ⟨k1, k2, k3⟩ := vx_keep h0 e1 hS hAX hf hL hF
    obtain ⟨t2, a1, b1⟩ := kx E ce q u t T'.heap (locs ++ L) e1.symm (by rw [← e2]; exact X'.warmed.alike) hp hb k1 k2 k3 (by rw [e1]; exact hce) hcv hcl T' rfl X'
    exact ⟨t2, st.trans a1, b1⟩
theorem vx_calld {S SX : Type} {post : UInt64 → S → Prop} {px : SX → Prop} {B : S → State → Prop} {BX : String → SX → State → Prop} {AX : Nat → Prop} (hr : vx_Run p l e R s m args below meth c H locs cells slots mc ms (F0 m pc ls st0) rest (va_Qd post B A1 a) (vx_X px BX AX) free) (hS : va_S A0 H0 H locs) (hA : ∀ q, q < H.size → A1 q → A0 q) (hf : ∀ q, free q → A0 q) (hAX : ∀ q, q < H.size → AX q → A0 q)
    (kx : ∀ (E : String) (ce : Cell) (q9 : Addr) (u : SX) (t : State) (H1 : Heap) (locs1 : List Loc), t.heap = H1 → s.vm.Alike t.vm → px u → BX E u t → H.size ≤ H1.size → (∀ q : Nat, q < H.size → ¬ AX q → H1[q]? = H[q]?) → va_S A0 H0 H1 locs1 → H1[q9]? = some ce → ce.vm = .none → s.vm.findClass E = some ce.cls → vx_W p l e R s m args below meth c H1 locs1 (cells + mc) (slots + ms) Q (F0 m pc ls rest) q9)
    (kk : ∀ (r : UInt64) (u : S) (t : State) (H1 : Heap) (locs1 : List Loc), t.heap = H1 → s.vm.Alike t.vm → post r u → B u t → H.size ≤ H1.size → (∀ q : Nat, q < H.size → ¬ A1 q → H1[q]? = H[q]?) → va_S A0 H0 H1 locs1 → W p l e R s m args below meth c H1 locs1 (cells + mc) (slots + ms) Q (F0 m (pc + 3) ls (.double r :: rest))) : W p l e R s m args below meth c H locs cells slots Q (F0 m pc ls st0) := by
  intro T hT X
  rcases hr T hT X with ⟨v, st₀, t, T', L, h0, X', hL, e1, e2, ⟨⟨r, u, hv, hp, hb⟩, hF⟩, st⟩ | ⟨q, st₀, t, T', L, E, ce, h0, X', hL, e1, e2, ⟨u, hp, hb, hF⟩, hce, hcv, hcl, st⟩
  · cases hv
    obtain ⟨k1, k2, k3⟩ := vx_keep h0 e1 hS hA hf hL hF
    obtain ⟨t2, a1, b1⟩ := kk r u t T'.heap (locs ++ L) e1.symm (by rw [← e2]; exact X'.warmed.alike) hp hb k1 k2 k3 T' rfl X'
    exact ⟨t2, st t2 a1, b1⟩
  · obtain ⟨k1, k2, k3⟩ := vx_keep h0 e1 hS hAX hf hL hF
    obtain ⟨t2, a1, b1⟩ := kx E ce q u t T'.heap (locs ++ L) e1.symm (by rw [← e2]; exact X'.warmed.alike) hp hb k1 k2 k3 (by rw [e1]; exact hce) hcv hcl T' rfl X'
    exact ⟨t2, st.trans a1, b1⟩
theorem vx_callv {S SX : Type} {post : S → Prop} {px : SX → Prop} {B : S → State → Prop} {BX : String → SX → State → Prop} {AX : Nat → Prop} (hr : vx_Run p l e R s m args below meth c H locs cells slots mc ms (F0 m pc ls st0) rest (va_Qv post B A1 a) (vx_X px BX AX) free) (hS : va_S A0 H0 H locs) (hA : ∀ q, q < H.size → A1 q → A0 q) (hf : ∀ q, free q → A0 q) (hAX : ∀ q, q < H.size → AX q → A0 q)
    (kx : ∀ (E : String) (ce : Cell) (q9 : Addr) (u : SX) (t : State) (H1 : Heap) (locs1 : List Loc), t.heap = H1 → s.vm.Alike t.vm → px u → BX E u t → H.size ≤ H1.size → (∀ q : Nat, q < H.size → ¬ AX q → H1[q]? = H[q]?) → va_S A0 H0 H1 locs1 → H1[q9]? = some ce → ce.vm = .none → s.vm.findClass E = some ce.cls → vx_W p l e R s m args below meth c H1 locs1 (cells + mc) (slots + ms) Q (F0 m pc ls rest) q9)
    (kk : ∀ (u : S) (t : State) (H1 : Heap) (locs1 : List Loc), t.heap = H1 → s.vm.Alike t.vm → post u → B u t → H.size ≤ H1.size → (∀ q : Nat, q < H.size → ¬ A1 q → H1[q]? = H[q]?) → va_S A0 H0 H1 locs1 → W p l e R s m args below meth c H1 locs1 (cells + mc) (slots + ms) Q (F0 m (pc + 3) ls (rest))) : W p l e R s m args below meth c H locs cells slots Q (F0 m pc ls st0) := by
  intro T hT X
  rcases hr T hT X with ⟨v, st₀, t, T', L, h0, X', hL, e1, e2, ⟨⟨u, hv, hp, hb⟩, hF⟩, st⟩ | ⟨q, st₀, t, T', L, E, ce, h0, X', hL, e1, e2, ⟨u, hp, hb, hF⟩, hce, hcv, hcl, st⟩
  · cases hv
    obtain ⟨k1, k2, k3⟩ := vx_keep h0 e1 hS hA hf hL hF
    obtain ⟨t2, a1, b1⟩ := kk u t T'.heap (locs ++ L) e1.symm (by rw [← e2]; exact X'.warmed.alike) hp hb k1 k2 k3 T' rfl X'
    exact ⟨t2, st t2 a1, b1⟩
  · obtain ⟨k1, k2, k3⟩ := vx_keep h0 e1 hS hAX hf hL hF
    obtain ⟨t2, a1, b1⟩ := kx E ce q u t T'.heap (locs ++ L) e1.symm (by rw [← e2]; exact X'.warmed.alike) hp hb k1 k2 k3 (by rw [e1]; exact hce) hcv hcl T' rfl X'
    exact ⟨t2, st.trans a1, b1⟩
/-- caught by the row x of this method's table; the rows ahead don't take it -/
theorem vx_catch {own name : String} {E : String} {ce : Cell} {q : Addr} (hown : s.vm.findClass own = some m.cls) (pre : List ExceptionTableEntry) (x : ExceptionTableEntry) (suf : List ExceptionTableEntry) (hsplit : c.exceptionTable.toList = pre ++ x :: suf)
    (hpass : ∀ z ∈ pre, covers z pc = false ∨ (z.catchType ≠ 0 ∧ ∃ nm : String, (Cond.classLink own z.catchType nm).before args s = true ∧ va_Nc E nm s)) (hx : covers x pc = true) (h0 : x.catchType ≠ 0)
    (hlink : (Cond.classLink own x.catchType name).before args s = true) (hcast : (Cond.castable E name).before args s = true) (hcell : H[q]? = some ce) (hv : ce.vm = .none) (hcl : s.vm.findClass E = some ce.cls)
    (kk : W p l e R s m args below meth c H locs cells slots Q (F0 m x.handlerPc ls [.ref q])) : vx_W p l e R s m args below meth c H locs cells slots Q (F0 m pc ls rest) q := by
  intro T hT X
  have hpl : e.platform.magicAccessors = ({} : Platform).magicAccessors := by rw [X.admits.platform]
  obtain ⟨c3, c4, hc3, hc4, hasg⟩ := Cond.castable_spec hcast
  cases Option.some.inj (hc3.symm.trans hcl)
  obtain ⟨c5, hc5, hcl5⟩ := Cond.classLink_spec hown hlink e.platform hpl
  cases Option.some.inj (hc4.symm.trans hc5)
  obtain ⟨vm', X', st⟩ := X.thenCaughtThrough q (g := F0 m pc ls rest) rfl (Steps.refl _) (by rw [hT]; exact hcell) (by rw [hv]; rfl) (by obtain ⟨k9, h9, -⟩ := Vm.findClass_spec hcl; exact ⟨k9, h9⟩) pre x suf hsplit
    (fun z hz => by
      rcases hpass z hz with h | ⟨hz0, nm, hl1, hn1⟩
      · exact Or.inl h
      · obtain ⟨c6, hc6, hcl6⟩ := Cond.classLink_spec hown hl1 e.platform hpl
        obtain ⟨a8, b8, h1, h2, h3⟩ := hn1
        cases Option.some.inj (h1.symm.trans hcl)
        cases Option.some.inj (h2.symm.trans hc6)
        exact Or.inr ⟨hz0, _, hcl6, h3⟩) hx (Or.inr ⟨h0, c4, hcl5, hasg⟩)
  obtain ⟨t, a1, b1⟩ := kk (T.setVm vm') hT X'
  exact ⟨t, st.trans a1, b1⟩
end Rows
section Ends
variable {p : Program} {l : Launch} {e : Env} {R : Room} {s : State} {m : MethodId} {args : Array Value} {below : List Frame} {meth : Method} {c : Code} {H : Heap} {locs : List Loc} {cells slots : Nat} {Q : State → Prop}
variable {mc ms : Nat} {free : Addr → Prop} {A0 A1 : Nat → Prop} {H0 : Heap} {a : Array Value} {ls : Array Slot} {st0 rest : List Value}
variable {Qc : Array Value → State → Outcome → State → Prop} {XC : String → State → State → Prop}
/-- what a body that may throw owes at its end -/
def vx_MQ (below : List Frame) (Qc : Array Value → State → Outcome → State → Prop) (XC : String → State → State → Prop) (a : Array Value) (s : State) (mc ms : Nat) (free : Addr → Prop) : State → Prop := fun t =>
  ∃ o, t.status = .running ∧ Ended t below o ∧ vx_Q Qc XC mc ms free a s o t
theorem vx_ret {g : JFrame} {mc ms : Nat} (k : W p l e R s m args below meth c H locs cells slots (MQ below Qc args s mc ms free) g) : W p l e R s m args below meth c H locs cells slots (vx_MQ below Qc XC args s mc ms free) g := by
  intro T hT X
  obtain ⟨t, a1, o, b1, b2, b3, b4⟩ := k T hT X
  exact ⟨t, a1, o, b1, b2, Or.inl ⟨b3, b4⟩⟩
/-- not caught here: it goes on to the caller -/
theorem vx_widen {g : JFrame} {q : Addr} {k n : Nat} (h1 : cells ≤ k) (h2 : slots ≤ n) (kk : vx_W p l e R s m args below meth c H locs k n Q g q) : vx_W p l e R s m args below meth c H locs cells slots Q g q := fun T hT X => kk T hT (stand_widen X h1 h2)
theorem vx_out {pc : Nat} {E : String} {ce : Cell} {q : Addr} {mc ms : Nat} (hout : ∀ x ∈ c.exceptionTable.toList, covers x pc = false) (hlocks : meth.locks = false) (hcell : H[q]? = some ce) (hv : ce.vm = .none) (hcl : s.vm.findClass E = some ce.cls)
    (hx : ∀ t : State, t.heap = H → s.vm.Alike t.vm → XC E s t) (hf : ∀ z ∈ locs, free z.base) (hc : cells ≤ mc) (hs : slots ≤ ms) :
    vx_W p l e R s m args below meth c H locs cells slots (vx_MQ below Qc XC args s mc ms free) (F0 m pc ls rest) q := by
  intro T hT X
  obtain ⟨st1, hrun, hend, hW, hsm⟩ := X.leaveThrown q (g := F0 m pc ls rest) rfl rfl rfl hout hlocks
  have hcell9 : (T.setFrames (.throwing q :: below)).heap[q]? = some ce := by
    show T.heap[q]? = some ce
    rw [hT]; exact hcell
  exact ⟨_, st1, .threw q, hrun, hend, Or.inr ⟨q, rfl, E, ce, locs, hx _ hT hW.alike, hcell9, hv, hcl, hW, hsm.mono hc hs, hf⟩⟩
theorem vx_frame {U : State} {k n : Nat} (h : s.sameButNew ({ U with vm := s.vm } : State) locs k n) : s.heap.size ≤ U.heap.size ∧ ∀ q : Nat, q < s.heap.size → (∀ z ∈ locs, z.base ≠ q) → U.heap[q]? = s.heap[q]? := by
  obtain ⟨-, h2, -, -, -, h6⟩ := h
  refine ⟨h2, fun q hq hz => ?_⟩
  obtain ⟨c9, e1, e2, e3, e4⟩ := h6 q _ (Array.getElem?_eq_getElem hq)
  have hs : c9.slots = (s.heap[q]).slots := Array.ext_getElem? fun i => e4 i fun hm => hz _ hm rfl
  have h9 : c9 = s.heap[q] := by
    rw [hs] at e2
    exact e2
  have e5 : U.heap[q]? = some c9 := e1
  rw [e5, h9, Array.getElem?_eq_getElem hq]
/-- the words of a throw but the four that speak of the heap -/
def vx_no (w : Cond) : Bool := decide (w ≠ .isRef (.static tN "UNASSIGNED_STACK" steD)) && decide (w ≠ .isRef (.static tN "SUPPRESSED_SENTINEL" listD)) && decide (w ≠ .laysStatic tN "UNASSIGNED_STACK" steD) && decide (w ≠ .laysStatic tN "SUPPRESSED_SENTINEL" listD)
def vx_at0 (own : String) (ic : Nat) (X : String) (names : List String) : List Cond := (ownAtoms0 own ic X names).filter vx_no
def vx_atS (own : String) (ic : Nat) (X : String) (names : List String) : List Cond := (ownAtoms own ic X names).filter vx_no
/-- a word that the tables alone decide, or a good one -/
def vx_ot (w : Cond) : Bool := w.onTables || goodWord w
theorem vx_ot_at {args a' : Array Value} {s U : State} {w : Cond} (hW : s.WarmedH U.vm) (hvm : s.vm = U.vm) (hg : vx_ot w = true) (h : w.before args s = true) : w.before a' U = true := by
  simp only [vx_ot, Bool.or_eq_true] at hg
  rcases hg with hg | hg
  · exact va_tabs hg hvm h
  · exact word_at hW (good_of_word hg) h
/-- a list's words: the good ones out of the method's own list, the others by premises of their own -/
theorem vx_hat {args : Array Value} {s : State} {L B : List Cond} (h1 : ∀ w ∈ L.filter goodWord, w.before args s = true) (h2 : ∀ w ∈ L.filter (fun w => !goodWord w), w ∈ B) (h3 : ∀ w ∈ B, w.before args s = true) : ∀ w ∈ L, w.before args s = true := by
  intro w hw
  by_cases g : goodWord w = true
  · exact h1 w (List.mem_filter.mpr ⟨hw, g⟩)
  · refine h3 w (h2 w (List.mem_filter.mpr ⟨hw, ?_⟩))
    show (!goodWord w) = true
    cases hgw : goodWord w
    · rfl
    · exact absurd hgw g
theorem vx_c {args : Array Value} {s : State} {w : Cond} {B : List Cond} (h : w.before args s = true) (t : ∀ w ∈ B, w.before args s = true) : ∀ w' ∈ w :: B, w'.before args s = true := fun w' h' => (List.mem_cons.mp h').elim (fun e => by rw [e]; exact h) (t w')
theorem vx_n {args : Array Value} {s : State} : ∀ w ∈ ([] : List Cond), w.before args s = true := fun _ h => nomatch h
theorem vx_own {args : Array Value} {s : State} {L : List Cond} (h1 : ∀ w ∈ L.filter vx_no, w.before args s = true)
    (hU : (Cond.isRef (.static tN "UNASSIGNED_STACK" steD)).before args s = true) (hN : (Cond.isRef (.static tN "SUPPRESSED_SENTINEL" listD)).before args s = true)
    (lU : (Cond.laysStatic tN "UNASSIGNED_STACK" steD).before args s = true) (lN : (Cond.laysStatic tN "SUPPRESSED_SENTINEL" listD).before args s = true) : ∀ w ∈ L, w.before args s = true := by
  intro w hw
  by_cases e1 : w = .isRef (.static tN "UNASSIGNED_STACK" steD)
  · rw [e1]; exact hU
  · by_cases e2 : w = .isRef (.static tN "SUPPRESSED_SENTINEL" listD)
    · rw [e2]; exact hN
    · by_cases e3 : w = .laysStatic tN "UNASSIGNED_STACK" steD
      · rw [e3]; exact lU
      · by_cases e4 : w = .laysStatic tN "SUPPRESSED_SENTINEL" listD
        · rw [e4]; exact lN
        · exact h1 w (List.mem_filter.mpr ⟨hw, by unfold vx_no; rw [decide_eq_true e1, decide_eq_true e2, decide_eq_true e3, decide_eq_true e4]; rfl⟩)
/-- where a static field lies, its class's statics cell in H -/
def vx_L (C n d : String) (A : Nat → Prop) (U : State) (H : Heap) : Prop := ∃ (c : ClassId) (k : Class) (i : Nat) (f : Field) (a : Nat) (cell : Cell), U.vm.findClass C = some c ∧ U.fieldFound? C n d = some (c, k, i, f) ∧ f.isStatic = true ∧ k.statics = some a ∧ H[a]? = some cell ∧ cell.vm.isStatics = true ∧ cell.cls = c ∧ f.slot < cell.slots.size ∧ k.staticTypes[f.slot]? = some f.type ∧ ¬ A a
theorem vx_L.moved {C n d : String} {A : Nat → Prop} {u U : State} {H : Heap} (hvm : u.vm.Alike U.vm) (h : vx_L C n d A u H) : vx_L C n d A U H := by
  obtain ⟨c, k, i, f, a, cell, h1, h2, h3, h4, h5, h6, h7, h8, h9, h10⟩ := h
  obtain ⟨k', hi', he⟩ := State.fieldFound?_setVm hvm h2
  exact ⟨c, k', i, f, a, cell, by rw [hvm.findClass]; exact h1, hi', h3, by rw [he]; exact h4, h5, h6, h7, h8, by rw [he]; exact h9, h10⟩
theorem vx_L.kept {C n d : String} {A : Nat → Prop} {U : State} {H H1 : Heap} (h : vx_L C n d A U H) (hq : ∀ a : Nat, a < H.size → ¬ A a → H1[a]? = H[a]?) : vx_L C n d A U H1 := by
  obtain ⟨c, k, i, f, a, cell, h1, h2, h3, h4, h5, h6, h7, h8, h9, h10⟩ := h
  exact ⟨c, k, i, f, a, cell, h1, h2, h3, h4, by rw [hq a (Array.getElem?_eq_some_iff.mp h5).1 h10]; exact h5, h6, h7, h8, h9, h10⟩
theorem vx_L.narrow {C n d : String} {A B : Nat → Prop} {U : State} {H : Heap} (h : vx_L C n d A U H) (hAB : ∀ q, B q → A q) : vx_L C n d B U H := by
  obtain ⟨c, k, i, f, a, cell, h1, h2, h3, h4, h5, h6, h7, h8, h9, h10⟩ := h
  exact ⟨c, k, i, f, a, cell, h1, h2, h3, h4, h5, h6, h7, h8, h9, fun z => h10 (hAB _ z)⟩
theorem vx_L.word {C n d : String} {A : Nat → Prop} {s : State} {args : Array Value} (h : vx_L C n d A s s.heap) : (Cond.laysStatic C n d).before args s = true := by
  obtain ⟨c, k, i, f, a, cell, h1, h2, h3, h4, h5, h6, h7, h8, h9, -⟩ := h
  show (Cond.laysStatic C n d).holds args s none s [] = true
  exact Cond.laysStatic_of h1 h2 h3 h4 h5 h6 h7 h8 h9
/-- .. and what it holds: null or some reference -/
def vx_Zq (C n d : String) (A : Nat → Prop) (U : State) (H : Heap) : Prop := va_Zq C n d A U H ∧ vx_L C n d A U H
theorem vx_Zq.moved {C n d : String} {A : Nat → Prop} {u U : State} {H : Heap} (hvm : u.vm.Alike U.vm) (h : vx_Zq C n d A u H) : vx_Zq C n d A U H := ⟨va_Zq.moved hvm h.1, vx_L.moved hvm h.2⟩
theorem vx_Zq.kept {C n d : String} {A : Nat → Prop} {U : State} {H H1 : Heap} (h : vx_Zq C n d A U H) (hq : ∀ a : Nat, a < H.size → ¬ A a → H1[a]? = H[a]?) : vx_Zq C n d A U H1 := ⟨va_Zq.kept h.1 hq, vx_L.kept h.2 hq⟩
theorem vx_Zq.narrow {C n d : String} {A B : Nat → Prop} {U : State} {H : Heap} (h : vx_Zq C n d A U H) (hAB : ∀ q, B q → A q) : vx_Zq C n d B U H := ⟨va_Zq.narrow h.1 hAB, vx_L.narrow h.2 hAB⟩
theorem vx_Zqof {args : Array Value} {s : State} {C n d : String} {A : Nat → Prop} (hl : (Cond.laysStatic C n d).before args s = true) (hini : (Cond.initialized C).before args s = true) (h : (Cond.isRef (.static C n d)).before args s = true) (hA : ∀ a : Nat, a < s.heap.size → ¬ A a) : vx_Zq C n d A s s.heap := by
  refine ⟨va_Zqof hl hini h hA, ?_⟩
  obtain ⟨c, k, i, f, a, cell, h1, h2, h3, h4, h5, h6, h7, h8, h9⟩ := Cond.laysStatic_spec hl
  exact ⟨c, k, i, f, a, cell, h1, h2, h3, h4, h5, h6, h7, h8, h9, hA a (Array.getElem?_eq_some_iff.mp h5).1⟩
theorem vx_isRef {C n d : String} {v : Value} {A : Nat → Prop} {s : State} {args : Array Value} (h : va_Z C n d v A s s.heap) (hv : v.isRef = true) : (Cond.isRef (.static C n d)).before args s = true := by
  obtain ⟨cf, kf, fi, f, a, cell, h1, h2, h3, h4, h5, h6, h7, -⟩ := h
  have he : (Term.static C n d).eval args s none [] s = some v := by
    simp [Term.eval, State.fieldNamed?, h1, h2, h4, h5, h6, h7]
  simp only [Cond.before, Cond.holds, Cond.value, he]
  cases v <;> simp_all [Value.isRef]
theorem vx_isRefq {C n d : String} {A : Nat → Prop} {s : State} {args : Array Value} (h : va_Zq C n d A s s.heap) : (Cond.isRef (.static C n d)).before args s = true := by
  rcases h with h | ⟨t, h⟩
  · exact vx_isRef h rfl
  · exact vx_isRef h rfl
/-- the same frame, seen from here: as if the method were called anew in this heap -/
theorem vx_rebase {T : State} (X : Stand p l e R s m args below meth c T locs cells slots) {R' : Room} (hf : R'.frames ≤ R.frames) (hl : R'.locals ≤ R.locals) (hc : cells + R'.cells ≤ R.cells) (hs : slots + R'.slots ≤ R.slots) :
    Stand p l e R' ((T.setVm s.vm).setFrames (.invoking m args :: below)) m args below meth c T [] 0 0 := by
  have htop : (T.setVm s.vm).topJava?.isSome := X.here.top
  have hF : ((T.setVm s.vm).setFrames (.invoking m args :: below)).frames = .invoking m args :: below := State.frames_setFrames _ (State.cur_lt_of_top htop)
  obtain ⟨g₀, hg0⟩ := Option.isSome_iff_exists.mp htop
  obtain ⟨r, hr⟩ := State.topJava?_eq_some.mp hg0
  have hl9 : e.platform.stackLimits (T.setVm s.vm).me = e.platform.stackLimits s.me := X.limits
  have hb9 : (T.setVm s.vm).me.stackBytes = s.me.stackBytes := X.bytes
  refine ⟨X.admits, X.cas, X.clock, hF, ?_, X.hears, X.method, X.code, X.here, X.tail, X.warmed, ?_, ?_, ?_⟩
  · have h := X.room
    have hU : ((T.setVm s.vm).setFrames (.invoking m args :: below)).localsInUse = s.localsInUse := by
      rw [State.localsInUse_invoking hF (meth := meth) (c := c) X.method X.code, State.localsInUse_invoking X.frames X.method X.code]
    simp only [State.hasRoom, Bool.and_eq_true, decide_eq_true_eq] at h ⊢
    obtain ⟨⟨⟨⟨h1, h2, h3, h4, h5, h6⟩, h7⟩, h8⟩, h9⟩ := h
    rw [X.frames, List.length_cons] at h2 h3
    have q1 := X.heapSize
    have q2 := X.used
    simp only [hF, hU, List.length_cons, State.stackLimits_setFrames, State.stackBytes_setFrames, hl9, hb9]
    refine ⟨⟨⟨⟨by omega, by omega, by omega, by omega, by omega, h6⟩, ?_⟩, ?_⟩, X.book⟩
    · show T.heap.size + R'.cells ≤ e.platform.maxCells
      omega
    · show T.slotsUsed + R'.slots ≤ e.platform.maxSlots
      omega
  · rw [State.stackLimits_setFrames]; rfl
  · rw [State.stackBytes_setFrames]; rfl
  · refine ⟨?_, Nat.le_refl _, Nat.le_refl _, ?_, ?_, fun a c9 h9 => ⟨c9, h9, rfl, rfl, fun _ _ => rfl⟩⟩
    · obtain ⟨t, ht, -⟩ := State.frames_cons hr
      show T.setVm s.vm = { ((T.setVm s.vm).setFrames (.invoking m args :: below)).setFrames (T.setVm s.vm).frames with heap := T.heap, slotsUsed := T.slotsUsed }
      rw [State.setFrames_setFrames, State.setFrames_self ht]
      rfl
    · show T.slotsUsed = T.slotsUsed + ((T.heap.toList.drop T.heap.size).map (·.slots.size)).sum
      rw [List.drop_eq_nil_of_le (Nat.le_of_eq Array.length_toList)]
      rfl
    · show ((T.heap.toList.drop T.heap.size).map (·.slots.size)).sum ≤ 0
      rw [List.drop_eq_nil_of_le (Nat.le_of_eq Array.length_toList)]
      exact Nat.le_refl _
/-- 'throw new E()': new; dup; invokespecial; athrow -/
theorem vx_throw0 {cc : ByteArray} {pc : Nat} (hexec : p.tables.exec = Jvm.exec) (hb : c.code = cc) (hl : l.stackTraces = false) {own cls : String} {names : List String} {ik ic mc ms : Nat} {A : Nat → Prop}
    (hown : s.vm.findClass own = some m.cls) (hcls : fit cls = true) (hnames : ∀ n ∈ names, fit n = true)
    (hk : (Cond.classLink own ik cls).before args s = true) (hini : (Cond.initialized cls).before args s = true) (hat : ∀ w ∈ vx_at0 own ic cls names, w.before args s = true)
    (hgood : ∀ w ∈ Cond.classLink own ik cls :: Cond.initialized cls :: vx_at0 own ic cls names, vx_ot w = true)
    (hU : vx_Zq tN "UNASSIGNED_STACK" steD A s s.heap) (hN : vx_Zq tN "SUPPRESSED_SENTINEL" listD A s s.heap) (hS : va_S A s.heap H locs) (hsize : ls.size = c.maxLocals)
    (d0 : decode cc pc = .ok (.new ik, 3)) (d3 : decode cc (pc + 3) = .ok (.dup, 1)) (d4 : decode cc (pc + 4) = .ok (.invokespecial ic, 3)) (d7 : decode cc (pc + 7) = .ok (.athrow, 1))
    (hout : ∀ x ∈ c.exceptionTable.toList, covers x (pc + 7) = false)
    (hRframes : names.length + 3 < R.frames) (hRlocals : (rest.map fun v => v.category).sum + (13 * (names.length + 1) + 42) ≤ R.locals) (hRcells : cells + 1 ≤ R.cells) (hRslots : slots + 6 ≤ R.slots) (hlocks : meth.locks = false)
    (hx : ∀ t : State, s.vm.Alike t.vm → H.size ≤ t.heap.size → (∀ q : Nat, q < H.size → t.heap[q]? = H[q]?) → XC cls s t)
    (hf : ∀ z ∈ locs, free z.base) (hc : cells + 1 ≤ mc) (hs : slots + 6 ≤ ms) :
    W p l e R s m args below meth c H locs cells slots (vx_MQ below Qc XC args s mc ms free) (F0 m pc ls rest) := by
  intro T hT X
  have htr : e.platform.stackTraces = false := (show e.platform.stackTraces = l.stackTraces by rw [X.admits.platform]).trans hl
  have Y := vx_rebase X (R' := { frames := R.frames, locals := R.locals, cells := 1, slots := 6 }) (Nat.le_refl _) (Nat.le_refl _) hRcells hRslots
  obtain ⟨s', hA⟩ : ∃ z, z = (T.setVm s.vm).setFrames (.invoking m args :: below) := ⟨_, rfl⟩
  rw [← hA] at Y
  have hvm : s'.vm = s.vm := by rw [hA]; rfl
  have hhp : s'.heap = H := by rw [hA]; exact hT
  have hW0 : s.WarmedH s'.vm := by rw [hvm]; exact State.WarmedH.refl s
  have hat' : ∀ w ∈ vx_at0 own ic cls names, w.before args s' = true := fun w hw => vx_ot_at hW0 hvm.symm (hgood w (List.mem_cons_of_mem _ (List.mem_cons_of_mem _ hw))) (hat w hw)
  have hk' : (Cond.classLink own ik cls).before args s' = true := vx_ot_at hW0 hvm.symm (hgood _ List.mem_cons_self) hk
  have hini' : (Cond.initialized cls).before args s' = true := vx_ot_at hW0 hvm.symm (hgood _ (List.mem_cons_of_mem _ List.mem_cons_self)) hini
  have hU' : vx_Zq tN "UNASSIGNED_STACK" steD A s' s'.heap := by rw [hhp]; exact vx_Zq.moved hW0.alike (hU.kept hS.2.1)
  have hN' : vx_Zq tN "SUPPRESSED_SENTINEL" listD A s' s'.heap := by rw [hhp]; exact vx_Zq.moved hW0.alike (hN.kept hS.2.1)
  have h : ∀ w ∈ ownAtoms0 own ic cls names, w.before args s' = true := vx_own hat' (vx_isRefq hU'.1) (vx_isRefq hN'.1) hU'.2.word hN'.2.word
  have hown' : s'.vm.findClass own = some m.cls := by rw [hvm]; exact hown
  have hins : (Cond.instantiable cls 6).before args s' = true := h _ (by simp [ownAtoms0])
  obtain ⟨vm₁, cX, kX, hfX, hkX, -, -, X₁, st1⟩ := Y.newCold hexec (own := own) (C := cls) (index := ik) (n := 6) hown' hk' hins hini'
    (g := F0 m pc ls rest) rfl (by rw [hb]; exact d0) (Nat.le_refl _) (Nat.le_refl _)
  generalize hT1 : (T.setVm vm₁).pushCell { cls := cX, slots := kX.instanceTypes.map defaultValue, vm := .none } = T1 at X₁ st1
  have hcat : (Value.ref T.heap.size).category = 1 := rfl
  have hcellA : T1.heap[T.heap.size]? = some (freshCell cX kX) := by rw [← hT1]; exact State.heap_pushCell_size _ _
  have d3' : decode c.code (pc + 3) = .ok (.dup, 1) := by rw [hb]; exact d3
  obtain ⟨U, hsteps, hrun, hend, hW, hsame, ce, hce, hO⟩ := X₁.ctorThrow0 hexec htr (own := own) (cls := cls) (names := names) (ic := ic) hown' hcls hnames h (fun x hx => nomatch hx) hfX hkX hcellA (by rw [hhp, hT]; exact Nat.le_refl _)
    (g := { method := m, pc := pc + 4, locals := ls, stack := .ref T.heap.size :: .ref T.heap.size :: rest, locked := none }) rfl hsize rfl rfl (rest := rest) rfl
    (by rw [hb]; exact d4) (by rw [hb]; exact d7) hout hRframes (by simp only [List.map_cons, List.sum_cons, hcat]; omega) hlocks
  obtain ⟨f1, f2⟩ := vx_frame hsame
  rw [hhp] at f1 f2
  have hWs : s.WarmedH U.vm := State.WarmedH.trans hW0 hW
  have hcl : s.vm.findClass cls = some ce.cls := by
    have h9 := hO.cls
    rw [hvm] at h9
    exact h9
  have hall : s.sameButNew ({ U with vm := s.vm } : State) locs mc ms := by
    subst hA
    obtain ⟨e1, e2⟩ := hsame
    rw [State.setFrames_setFrames] at e1
    have h2 : (T.setVm s.vm).sameButNew ({ U with vm := s.vm } : State) [] (0 + 1) (0 + 6) := ⟨e1, e2⟩
    have h3 := X.same.trans h2
    rw [List.append_nil] at h3
    exact h3.mono hc hs
  refine ⟨U, ?_, .threw T.heap.size, hrun, hend, Or.inr ⟨T.heap.size, rfl, cls, ce, locs, hx U hWs.alike f1 (fun q hq => f2 q hq (fun z hz => nomatch hz)), hce, hO.vm, hcl, hWs, hall, hf⟩⟩
  refine st1 _ ?_
  show Steps p.tables e below (T1.setTop { method := m, pc := pc + 3, locals := ls, stack := .ref T.heap.size :: rest, locked := none }) _
  jvm_step X₁.here [X₁.here.top, hexec, d3', Value.category]
  exact hsteps
/-- 'throw new E("text")': new; dup; ldc; invokespecial; athrow -/
theorem vx_throwS {cc : ByteArray} {pc : Nat} (hexec : p.tables.exec = Jvm.exec) (hb : c.code = cc) (hl : l.stackTraces = false) {own cls text : String} {names : List String} {ik is ic mc ms sa : Nat} {A : Nat → Prop}
    (hown : s.vm.findClass own = some m.cls) (hcls : fit cls = true) (hnames : ∀ n ∈ names, fit n = true)
    (hk : (Cond.classLink own ik cls).before args s = true) (hini : (Cond.initialized cls).before args s = true) (hstr : vk_R own is text sa s) (hat : ∀ w ∈ vx_atS own ic cls names, w.before args s = true)
    (hgood : ∀ w ∈ Cond.classLink own ik cls :: Cond.initialized cls :: vx_atS own ic cls names, vx_ot w = true)
    (hU : vx_Zq tN "UNASSIGNED_STACK" steD A s s.heap) (hN : vx_Zq tN "SUPPRESSED_SENTINEL" listD A s s.heap) (hS : va_S A s.heap H locs) (hsize : ls.size = c.maxLocals)
    (d0 : decode cc pc = .ok (.new ik, 3)) (d3 : decode cc (pc + 3) = .ok (.dup, 1)) (d4 : decode cc (pc + 4) = .ok (.ldc is, 2)) (d6 : decode cc (pc + 6) = .ok (.invokespecial ic, 3)) (d9 : decode cc (pc + 9) = .ok (.athrow, 1))
    (hout : ∀ x ∈ c.exceptionTable.toList, covers x (pc + 9) = false)
    (hRframes : names.length + 3 < R.frames) (hRlocals : (rest.map fun v => v.category).sum + (13 * (names.length + 1) + 43) ≤ R.locals) (hRcells : cells + 1 ≤ R.cells) (hRslots : slots + 6 ≤ R.slots) (hlocks : meth.locks = false)
    (hx : ∀ t : State, s.vm.Alike t.vm → H.size ≤ t.heap.size → (∀ q : Nat, q < H.size → t.heap[q]? = H[q]?) → XC cls s t)
    (hf : ∀ z ∈ locs, free z.base) (hc : cells + 1 ≤ mc) (hs : slots + 6 ≤ ms) :
    W p l e R s m args below meth c H locs cells slots (vx_MQ below Qc XC args s mc ms free) (F0 m pc ls rest) := by
  intro T hT X
  have htr : e.platform.stackTraces = false := (show e.platform.stackTraces = l.stackTraces by rw [X.admits.platform]).trans hl
  have Y := vx_rebase X (R' := { frames := R.frames, locals := R.locals, cells := 1, slots := 6 }) (Nat.le_refl _) (Nat.le_refl _) hRcells hRslots
  obtain ⟨s', hA⟩ : ∃ z, z = (T.setVm s.vm).setFrames (.invoking m args :: below) := ⟨_, rfl⟩
  rw [← hA] at Y
  have hvm : s'.vm = s.vm := by rw [hA]; rfl
  have hhp : s'.heap = H := by rw [hA]; exact hT
  have hW0 : s.WarmedH s'.vm := by rw [hvm]; exact State.WarmedH.refl s
  have hat' : ∀ w ∈ vx_atS own ic cls names, w.before args s' = true := fun w hw => vx_ot_at hW0 hvm.symm (hgood w (List.mem_cons_of_mem _ (List.mem_cons_of_mem _ hw))) (hat w hw)
  have hk' : (Cond.classLink own ik cls).before args s' = true := vx_ot_at hW0 hvm.symm (hgood _ List.mem_cons_self) hk
  have hini' : (Cond.initialized cls).before args s' = true := vx_ot_at hW0 hvm.symm (hgood _ (List.mem_cons_of_mem _ List.mem_cons_self)) hini
  have hU' : vx_Zq tN "UNASSIGNED_STACK" steD A s' s'.heap := by rw [hhp]; exact vx_Zq.moved hW0.alike (hU.kept hS.2.1)
  have hN' : vx_Zq tN "SUPPRESSED_SENTINEL" listD A s' s'.heap := by rw [hhp]; exact vx_Zq.moved hW0.alike (hN.kept hS.2.1)
  have h : ∀ w ∈ ownAtoms own ic cls names, w.before args s' = true := vx_own hat' (vx_isRefq hU'.1) (vx_isRefq hN'.1) hU'.2.word hN'.2.word
  have hown' : s'.vm.findClass own = some m.cls := by rw [hvm]; exact hown
  have hins : (Cond.instantiable cls 6).before args s' = true := h _ (by simp [ownAtoms])
  obtain ⟨vm₁, cX, kX, hfX, hkX, -, -, X₁, st1⟩ := Y.newCold hexec (own := own) (C := cls) (index := ik) (n := 6) hown' hk' hins hini'
    (g := F0 m pc ls rest) rfl (by rw [hb]; exact d0) (Nat.le_refl _) (Nat.le_refl _)
  generalize hT1 : (T.setVm vm₁).pushCell { cls := cX, slots := kX.instanceTypes.map defaultValue, vm := .none } = T1 at X₁ st1
  have hcat : (Value.ref T.heap.size).category = 1 := rfl
  have hcellA : T1.heap[T.heap.size]? = some (freshCell cX kX) := by rw [← hT1]; exact State.heap_pushCell_size _ _
  have d3' : decode c.code (pc + 3) = .ok (.dup, 1) := by rw [hb]; exact d3
  have d4' : decode c.code (pc + 4) = .ok (.ldc is, 2) := by rw [hb]; exact d4
  have hstr' : vk_R own is text sa s' := vk_R.warm hW0 hstr
  obtain ⟨U, hsteps, hrun, hend, hW, hsame, ce, hce, hO⟩ := X₁.ctorThrowS hexec htr (own := own) (cls := cls) (names := names) (ic := ic) hown' hcls hnames h (fun x hx => nomatch hx) hfX hkX hcellA (by rw [hhp, hT]; exact Nat.le_refl _) (msg := .ref sa) rfl
    (g := { method := m, pc := pc + 6, locals := ls, stack := .ref sa :: .ref T.heap.size :: .ref T.heap.size :: rest, locked := none }) rfl hsize rfl rfl (rest := rest) rfl
    (by rw [hb]; exact d6) (by rw [hb]; exact d9) hout hRframes (by simp only [List.map_cons, List.sum_cons, hcat]; omega) hlocks
  obtain ⟨f1, f2⟩ := vx_frame hsame
  rw [hhp] at f1 f2
  have hWs : s.WarmedH U.vm := State.WarmedH.trans hW0 hW
  have hcl : s.vm.findClass cls = some ce.cls := by
    have h9 := hO.cls
    rw [hvm] at h9
    exact h9
  have hall : s.sameButNew ({ U with vm := s.vm } : State) locs mc ms := by
    subst hA
    obtain ⟨e1, e2⟩ := hsame
    rw [State.setFrames_setFrames] at e1
    have h2 : (T.setVm s.vm).sameButNew ({ U with vm := s.vm } : State) [] (0 + 1) (0 + 6) := ⟨e1, e2⟩
    have h3 := X.same.trans h2
    rw [List.append_nil] at h3
    exact h3.mono hc hs
  refine ⟨U, ?_, .threw T.heap.size, hrun, hend, Or.inr ⟨T.heap.size, rfl, cls, ce, locs, hx U hWs.alike f1 (fun q hq => f2 q hq (fun z hz => nomatch hz)), hce, hO.vm, hcl, hWs, hall, hf⟩⟩
  refine st1 _ ?_
  show Steps p.tables e below (T1.setTop { method := m, pc := pc + 3, locals := ls, stack := .ref T.heap.size :: rest, locked := none }) _
  jvm_step X₁.here [X₁.here.top, hexec, d3', Value.category]
  exact X₁.ldcString hexec (own := own) (text := text) (index := is) (a := sa) hown' hstr'.1 hstr'.2
    (g := { method := m, pc := pc + 4, locals := ls, stack := .ref T.heap.size :: .ref T.heap.size :: rest, locked := none }) rfl d4' _ hsteps
/-- 'throw new E("text")', the text by a wide index -/
theorem vx_throwSW {cc : ByteArray} {pc : Nat} (hexec : p.tables.exec = Jvm.exec) (hb : c.code = cc) (hl : l.stackTraces = false) {own cls text : String} {names : List String} {ik is ic mc ms sa : Nat} {A : Nat → Prop}
    (hown : s.vm.findClass own = some m.cls) (hcls : fit cls = true) (hnames : ∀ n ∈ names, fit n = true)
    (hk : (Cond.classLink own ik cls).before args s = true) (hini : (Cond.initialized cls).before args s = true) (hstr : vk_R own is text sa s) (hat : ∀ w ∈ vx_atS own ic cls names, w.before args s = true)
    (hgood : ∀ w ∈ Cond.classLink own ik cls :: Cond.initialized cls :: vx_atS own ic cls names, vx_ot w = true)
    (hU : vx_Zq tN "UNASSIGNED_STACK" steD A s s.heap) (hN : vx_Zq tN "SUPPRESSED_SENTINEL" listD A s s.heap) (hS : va_S A s.heap H locs) (hsize : ls.size = c.maxLocals)
    (d0 : decode cc pc = .ok (.new ik, 3)) (d3 : decode cc (pc + 3) = .ok (.dup, 1)) (d4 : decode cc (pc + 4) = .ok (.ldc_w is, 3)) (d7 : decode cc (pc + 7) = .ok (.invokespecial ic, 3)) (d10 : decode cc (pc + 10) = .ok (.athrow, 1))
    (hout : ∀ x ∈ c.exceptionTable.toList, covers x (pc + 10) = false)
    (hRframes : names.length + 3 < R.frames) (hRlocals : (rest.map fun v => v.category).sum + (13 * (names.length + 1) + 43) ≤ R.locals) (hRcells : cells + 1 ≤ R.cells) (hRslots : slots + 6 ≤ R.slots) (hlocks : meth.locks = false)
    (hx : ∀ t : State, s.vm.Alike t.vm → H.size ≤ t.heap.size → (∀ q : Nat, q < H.size → t.heap[q]? = H[q]?) → XC cls s t)
    (hf : ∀ z ∈ locs, free z.base) (hc : cells + 1 ≤ mc) (hs : slots + 6 ≤ ms) :
    W p l e R s m args below meth c H locs cells slots (vx_MQ below Qc XC args s mc ms free) (F0 m pc ls rest) := by
  intro T hT X
  have htr : e.platform.stackTraces = false := (show e.platform.stackTraces = l.stackTraces by rw [X.admits.platform]).trans hl
  have Y := vx_rebase X (R' := { frames := R.frames, locals := R.locals, cells := 1, slots := 6 }) (Nat.le_refl _) (Nat.le_refl _) hRcells hRslots
  obtain ⟨s', hA⟩ : ∃ z, z = (T.setVm s.vm).setFrames (.invoking m args :: below) := ⟨_, rfl⟩
  rw [← hA] at Y
  have hvm : s'.vm = s.vm := by rw [hA]; rfl
  have hhp : s'.heap = H := by rw [hA]; exact hT
  have hW0 : s.WarmedH s'.vm := by rw [hvm]; exact State.WarmedH.refl s
  have hat' : ∀ w ∈ vx_atS own ic cls names, w.before args s' = true := fun w hw => vx_ot_at hW0 hvm.symm (hgood w (List.mem_cons_of_mem _ (List.mem_cons_of_mem _ hw))) (hat w hw)
  have hk' : (Cond.classLink own ik cls).before args s' = true := vx_ot_at hW0 hvm.symm (hgood _ List.mem_cons_self) hk
  have hini' : (Cond.initialized cls).before args s' = true := vx_ot_at hW0 hvm.symm (hgood _ (List.mem_cons_of_mem _ List.mem_cons_self)) hini
  have hU' : vx_Zq tN "UNASSIGNED_STACK" steD A s' s'.heap := by rw [hhp]; exact vx_Zq.moved hW0.alike (hU.kept hS.2.1)
  have hN' : vx_Zq tN "SUPPRESSED_SENTINEL" listD A s' s'.heap := by rw [hhp]; exact vx_Zq.moved hW0.alike (hN.kept hS.2.1)
  have h : ∀ w ∈ ownAtoms own ic cls names, w.before args s' = true := vx_own hat' (vx_isRefq hU'.1) (vx_isRefq hN'.1) hU'.2.word hN'.2.word
  have hown' : s'.vm.findClass own = some m.cls := by rw [hvm]; exact hown
  have hins : (Cond.instantiable cls 6).before args s' = true := h _ (by simp [ownAtoms])
  obtain ⟨vm₁, cX, kX, hfX, hkX, -, -, X₁, st1⟩ := Y.newCold hexec (own := own) (C := cls) (index := ik) (n := 6) hown' hk' hins hini'
    (g := F0 m pc ls rest) rfl (by rw [hb]; exact d0) (Nat.le_refl _) (Nat.le_refl _)
  generalize hT1 : (T.setVm vm₁).pushCell { cls := cX, slots := kX.instanceTypes.map defaultValue, vm := .none } = T1 at X₁ st1
  have hcat : (Value.ref T.heap.size).category = 1 := rfl
  have hcellA : T1.heap[T.heap.size]? = some (freshCell cX kX) := by rw [← hT1]; exact State.heap_pushCell_size _ _
  have d3' : decode c.code (pc + 3) = .ok (.dup, 1) := by rw [hb]; exact d3
  have d4' : decode c.code (pc + 4) = .ok (.ldc_w is, 3) := by rw [hb]; exact d4
  have hstr' : vk_R own is text sa s' := vk_R.warm hW0 hstr
  obtain ⟨U, hsteps, hrun, hend, hW, hsame, ce, hce, hO⟩ := X₁.ctorThrowS hexec htr (own := own) (cls := cls) (names := names) (ic := ic) hown' hcls hnames h (fun x hx => nomatch hx) hfX hkX hcellA (by rw [hhp, hT]; exact Nat.le_refl _) (msg := .ref sa) rfl
    (g := { method := m, pc := pc + 7, locals := ls, stack := .ref sa :: .ref T.heap.size :: .ref T.heap.size :: rest, locked := none }) rfl hsize rfl rfl (rest := rest) rfl
    (by rw [hb]; exact d7) (by rw [hb]; exact d10) hout hRframes (by simp only [List.map_cons, List.sum_cons, hcat]; omega) hlocks
  obtain ⟨f1, f2⟩ := vx_frame hsame
  rw [hhp] at f1 f2
  have hWs : s.WarmedH U.vm := State.WarmedH.trans hW0 hW
  have hcl : s.vm.findClass cls = some ce.cls := by
    have h9 := hO.cls
    rw [hvm] at h9
    exact h9
  have hall : s.sameButNew ({ U with vm := s.vm } : State) locs mc ms := by
    subst hA
    obtain ⟨e1, e2⟩ := hsame
    rw [State.setFrames_setFrames] at e1
    have h2 : (T.setVm s.vm).sameButNew ({ U with vm := s.vm } : State) [] (0 + 1) (0 + 6) := ⟨e1, e2⟩
    have h3 := X.same.trans h2
    rw [List.append_nil] at h3
    exact h3.mono hc hs
  refine ⟨U, ?_, .threw T.heap.size, hrun, hend, Or.inr ⟨T.heap.size, rfl, cls, ce, locs, hx U hWs.alike f1 (fun q hq => f2 q hq (fun z hz => nomatch hz)), hce, hO.vm, hcl, hWs, hall, hf⟩⟩
  refine st1 _ ?_
  show Steps p.tables e below (T1.setTop { method := m, pc := pc + 3, locals := ls, stack := .ref T.heap.size :: rest, locked := none }) _
  jvm_step X₁.here [X₁.here.top, hexec, d3', Value.category]
  exact X₁.ldcStringW hexec (own := own) (text := text) (index := is) (a := sa) hown' hstr'.1 hstr'.2
    (g := { method := m, pc := pc + 4, locals := ls, stack := .ref T.heap.size :: .ref T.heap.size :: rest, locked := none }) rfl d4' _ hsteps
end Ends
section Bodies
variable {l : Launch}
theorem vx_ofW {y : MethodName} {ws ws' : List Cond} {rm : Room} {Pc : Array Value → State → Prop} {Qc : Array Value → State → Outcome → State → Prop} {XC : String → State → State → Prop} {mc ms : Nat} {free : Addr → Prop} {cc : ByteArray} {maxL : Nat} {ret : Option FieldType}
    (hy : plainName y.cls = true) (hw : ws = Cond.code y cc maxL ret :: ws')
    (body : ∀ p e s m args below meth c s₁, BodyLoose p l y (headSpec ws rm) cc maxL ret e s m args below meth c s₁ → c.maxLocals = maxL → (∀ x ∈ c.exceptionTable.toList, False) → Pc args s →
      W p l e (headSpec ws rm).room s m args below meth c s.heap [] 0 0 (vx_MQ below Qc XC args s mc ms free) (entryFrame m args maxL)) : vx_Met l y ws rm Pc Qc XC mc ms free := by
  refine MetFree.of_bodyS (code := cc) (maxLocals := maxL) (ret := ret) hy ?_ ?_
  · intro args s m h hn
    obtain ⟨meth, c, h1, h2, h3, h4, h5, h6, -, -⟩ := Cond.code_spec hn (atoms_spec (ws := ws) h _ (by rw [hw]; exact List.mem_cons_self))
    exact ⟨meth, c, h1, h2, h3, h4, h5, h6⟩
  · intro p e s m args below meth c s₁ B hml hP _
    have hh0 : s₁.heap = s.heap := by rw [B.state]; rfl
    have ht : ∀ x ∈ c.exceptionTable.toList, False := by
      obtain ⟨meth9, c9, h1, h2, -, -, -, -, h7, -⟩ := Cond.code_spec B.named (atoms_spec (ws := ws) B.pre _ (by rw [hw]; exact List.mem_cons_self))
      cases Option.some.inj (h1.symm.trans B.method)
      cases Option.some.inj (h2.symm.trans (Stand.of_body B).code)
      intro x hx
      rw [Array.isEmpty_iff.mp h7] at hx
      cases hx
    obtain ⟨t, a1, o, b1, b2, b3⟩ := body p e s m args below meth c s₁ B hml ht hP s₁ hh0 (Stand.of_body B)
    exact ⟨t, o, a1, b1, b2, b3⟩
/-- the table of a body with handlers -/
theorem vx_table {p : Program} {x y : MethodName} {S : Spec} {cc bytes : ByteArray} {maxL maxL' : Nat} {ret ret' : Option FieldType} {e : Env} {s s₁ : State} {m : MethodId} {args : Array Value} {below : List Frame} {meth : Method} {c : Code} {hh : List (Nat × Nat × Nat × Nat)}
    (B : BodyLoose p l y S cc maxL ret e s m args below meth c s₁) (h : (Cond.codeWith y bytes maxL' ret' hh).before args s = true) : c.exceptionTable.toList = tableOf hh := by
  obtain ⟨m9, meth9, c9, hn9, h1, h2, -, -, h6, -⟩ := Cond.codeWith_spec h
  cases Option.some.inj (hn9.symm.trans B.named)
  cases Option.some.inj (h1.symm.trans B.method)
  cases Option.some.inj (h2.symm.trans (Stand.of_body B).code)
  rw [← h6, table_eq]
end Bodies
end VXA
/-! ===== END ===== -/
/-! ===== BEGIN a static call of a method with an exception table ===== -/
section VXS
variable {p : Program} {l : Launch} {e : Env} {R : Room} {s : State} {m : MethodId} {args : Array Value} {below : List Frame} {meth : Method} {c : Code} {T : State} {H : Heap} {locs : List Loc} {cells slots : Nat}
abbrev vx_CSW (R : Room) (s : State) (args : Array Value) (own : String) (index : Nat) (y : MethodName) (bytes : ByteArray) (maxL : Nat) (ret : Option FieldType) (hh : List (Nat × Nat × Nat × Nat)) (ws : List Cond) (rm : Room) (mc ms n : Nat) : Prop :=
  (rm.cells = mc ∧ rm.slots = ms ∧ rm.frames + 1 ≤ R.frames ∧ 8 + (maxL + 11) + rm.locals ≤ R.locals ∧ (∀ w ∈ ws, ∀ (a' : Array Value) (U : State), s.WarmedH U.vm → w.before a' U = true) ∧ Cond.codeWith y bytes maxL ret hh ∈ ws) ∧
  (Cond.codeWith y bytes maxL ret hh).before args s = true ∧ (Cond.initialized y.cls).before args s = true ∧ (y.cls ≠ "java/lang/invoke/MethodHandle" ∧ y.cls ≠ "java/lang/invoke/VarHandle") ∧
  (∀ sig, parseMethodDescriptor y.desc = some sig → n = sig.parameters.length) ∧ (Cond.methodLink own index y).before args s = true ∧ (Cond.static y).before args s = true
theorem vx_cwSW {own : String} {index maxL mc ms : Nat} {y : MethodName} {bytes : ByteArray} {ret : Option FieldType} {hh : List (Nat × Nat × Nat × Nat)} {Ts ws ws' : List Cond} {rm : Room} (n : Nat) (ht : ∀ w ∈ Ts, w.before args s = true) (hT : GoodIn Ts (va_wsS own index y ws)) (hw : ws = Cond.codeWith y bytes maxL ret hh :: ws') (hrc : rm.cells = mc) (hrs : rm.slots = ms)
    (hd : y.cls ≠ "java/lang/invoke/MethodHandle" ∧ y.cls ≠ "java/lang/invoke/VarHandle" ∧ (parseMethodDescriptor y.desc).map (fun d => d.parameters.length) = some n) (hR : rm.frames + 1 ≤ R.frames ∧ 8 + (maxL + 11) + rm.locals ≤ R.locals) :
    vx_CSW R s args own index y bytes maxL ret hh ws rm mc ms n := by
  have ok : ∀ w ∈ va_wsS own index y ws, w.before args s = true := fun w h => ht w (hT w h).1
  have hG : GoodIn Ts ws := fun w h => hT w (by unfold va_wsS; exact List.mem_append_right _ h)
  have hc : Cond.codeWith y bytes maxL ret hh ∈ ws := by rw [hw]; exact List.mem_cons_self
  refine ⟨⟨hrc, hrs, hR.1, hR.2, pay_in ht hG, hc⟩, ht _ (hG _ hc).1, ok _ (by simp [va_wsS]), ⟨hd.1, hd.2.1⟩, fun sig h => ?_, ok _ (by simp [va_wsS]), ok _ (by simp [va_wsS])⟩
  have h2 := hd.2.2
  rw [h] at h2
  exact (Option.some.inj h2).symm
theorem vx_callSW (X : Stand p l e R s m args below meth c T locs cells slots) (hexec : p.tables.exec = Jvm.exec) {own : String} {index : Nat} {y : MethodName} {bytes : ByteArray} {maxL : Nat} {ret : Option FieldType} {hh : List (Nat × Nat × Nat × Nat)}
    (hown : s.vm.findClass own = some m.cls) (hlink : (Cond.methodLink own index y).before args s = true) (hstat : (Cond.static y).before args s = true) (hinit : (Cond.initialized y.cls).before args s = true)
    (hcode : (Cond.codeWith y bytes maxL ret hh).before args s = true) (hy : y.cls ≠ "java/lang/invoke/MethodHandle" ∧ y.cls ≠ "java/lang/invoke/VarHandle")
    {W9 : Nat} {Pre : Pt → Array Value → Prop} {Post : Pt → Array Value → Option Value → Pt → Prop} (hK : Back l R p e below s args y 3 W9 Pre Post)
    {g : JFrame} (hg : g.method = m) (hsize : g.locals.size = c.maxLocals) {argsL rest : List Value} (hlen : ∀ sig, parseMethodDescriptor y.desc = some sig → argsL.length = sig.parameters.length)
    (hstack : g.stack = argsL.reverse ++ rest) (hW : 2 * g.monitorRoom + (rest.map fun v => v.category).sum ≤ W9) (hdg : decode c.code g.pc = .ok (.invokestatic index, 3))
    (hpre : ∀ vm₁, s.WarmedH vm₁ → Pre ⟨T.setVm vm₁, locs, cells, slots⟩ argsL.toArray) :
    ∃ (v : Option Value) (vm₁ : Vm) (B : Pt), s.WarmedH vm₁ ∧ Stand p l e R s m args below meth c B.U B.locs B.cells B.slots ∧ Post ⟨T.setVm vm₁, locs, cells, slots⟩ argsL.toArray v B ∧
      ∀ target, Steps p.tables e below (B.U.setTop { g with pc := g.pc + 3, stack := v.toList ++ rest }) target → Steps p.tables e below (T.setTop g) target := by
  obtain ⟨mk, methM, cM, hnamed, hmethM, -, -, -, -, -, -, hsigM⟩ := Cond.codeWith_spec hcode
  have hstatic : methM.isStatic = true := Cond.static_spec hnamed hmethM hstat
  obtain ⟨kP, hkP, -⟩ := className_of_methodNamed hnamed
  have hinitP : kP.init = .initialized := Cond.initialized_spec (findClass_of_methodNamed hnamed) hkP hinit
  obtain ⟨vm₁, X₁, hstep₁⟩ := X.invokestatic hexec hown hlink hnamed hmethM hstatic hkP hinitP hy (g := g) hg (argsL := argsL) (rest := rest) (hlen _ hsigM) hstack hdg
  obtain ⟨v, B, X', hpost, hsteps⟩ := hK m meth c ⟨T.setVm vm₁, locs, cells, slots⟩ { g with stack := rest } (.invokestatic index) mk argsL.toArray X₁ hg hsize hdg hW (X₁.named hnamed) (hpre vm₁ X₁.warmed)
  exact ⟨v, vm₁, B, X₁.warmed, X', hpost, fun target h => hstep₁ _ fun acts => by rw [doInvoke_state]; exact hsteps.trans h⟩
theorem vx_runSW {y : MethodName} {bytes cc : ByteArray} {maxL nL mc ms n index : Nat} {ret : Option FieldType} {hh : List (Nat × Nat × Nat × Nat)} {ws : List Cond} {rm : Room} {Pc : Array Value → State → Prop} {Qc : Array Value → State → Outcome → State → Prop} {free : Addr → Prop} {Ts : List Cond} {own : String} {As rest : List Value} {g : JFrame}
    (S : CallFix p m c cc nL s args Ts own) (hM : Met l y ws rm Pc Qc mc ms free) (cw : vx_CSW R s args own index y bytes maxL ret hh ws rm mc ms n) (hp : PreS s H Pc As)
    (hg : g.method = m) (hn : As.length = n) (hsize : g.locals.size = nL) (hstack : g.stack = As.reverse ++ rest) (hW : 2 * g.monitorRoom + (rest.map fun v => v.category).sum ≤ 8) (hdg : decode cc g.pc = .ok (.invokestatic index, 3)) (hf : cells + mc ≤ R.cells ∧ slots + ms ≤ R.slots) :
    va_Run p l e R s m args below meth c H locs cells slots mc ms g rest (Qc As.toArray) (free) := by
  obtain ⟨⟨hrc, hrs, hfr, hlo, hws, hcw⟩, hcode, hini, hy, hlen, hl, hstt⟩ := cw
  have hK : Back l R p e below s args y 3 8 (PreOf R mc ms Pc) (PostOf Qc mc ms free) := va_backW (hh := hh) (bytes := bytes) (maxL := maxL) (ret := ret) hM hp.1 hrc hrs hfr hlo hws hcw (fun a' U hW => word_at hW (Or.inl (by first | rfl | simp [Cond.onTables, Cond.keeps, Cond.steady])) hini)
  obtain ⟨hx, hb, hml, ho, -⟩ := S
  intro T hT X
  obtain ⟨v, vm₁, ⟨U', l2, c2, s2⟩, hW₁, X', ⟨g', mk, t, L, e1, e2, hq, h1, hL, h2, h3⟩, st⟩ := vx_callSW X hx (hh := hh) (bytes := bytes) (maxL := maxL) (ret := ret) ho hl hstt hini hcode hy hK hg (hsize.trans hml.symm) (argsL := As) (rest := rest) (fun sig h => hn.trans (hlen sig h)) hstack hW (by rw [hb]; exact hdg)
    (fun vm₁ hW₁ => ⟨hf.1, hf.2, hp.2 (T.setVm vm₁) hT hW₁⟩)
  dsimp only [Pt.U, Pt.locs, Pt.cells, Pt.slots] at X' e1 e2 h1 h2 h3 st
  subst h1; subst h2; subst h3
  exact ⟨v, (T.setVm vm₁).calling g' mk As.toArray, t, U', L, hT, X', hL, e1, e2, hq, st⟩
/-- not caught here, past rows that name other classes: it goes on to the caller -/
theorem vx_outP {p : Program} {l : Launch} {e : Env} {R : Room} {s : State} {m : MethodId} {args : Array Value} {below : List Frame} {meth : Method} {c : Code} {H : Heap} {locs : List Loc} {cells slots : Nat} {free : Addr → Prop} {ls : Array Slot} {rest : List Value} {Qc : Array Value → State → Outcome → State → Prop} {XC : String → State → State → Prop}
    {pc : Nat} {own E : String} {ce : Cell} {q : Addr} {mc ms : Nat} (hown : s.vm.findClass own = some m.cls) (hlocks : meth.locks = false)
    (hpass : ∀ z ∈ c.exceptionTable.toList, covers z pc = false ∨ (z.catchType ≠ 0 ∧ ∃ nm : String, (Cond.classLink own z.catchType nm).before args s = true ∧ va_Nc E nm s)) (hcell : H[q]? = some ce) (hv : ce.vm = .none) (hcl : s.vm.findClass E = some ce.cls)
    (hx : ∀ t : State, t.heap = H → s.vm.Alike t.vm → XC E s t) (hf : ∀ z ∈ locs, free z.base) (hc : cells ≤ mc) (hs : slots ≤ ms) :
    vx_W p l e R s m args below meth c H locs cells slots (vx_MQ below Qc XC args s mc ms free) (F0 m pc ls rest) q := by
  intro T hT X
  have hpl : e.platform.magicAccessors = ({} : Platform).magicAccessors := by rw [X.admits.platform]
  obtain ⟨vm', hW', X', st⟩ := X.outThrough hlocks q (g := F0 m pc ls rest) rfl rfl rfl (cell := ce) (by rw [hT]; exact hcell) (by rw [hv]; rfl)
    (by obtain ⟨k9, h9, -⟩ := Vm.findClass_spec hcl; exact ⟨k9, h9⟩) (fun z hz => by
      rcases hpass z hz with h | ⟨hz0, nm, hl1, hn1⟩
      · exact Or.inl h
      · obtain ⟨c6, hc6, hcl6⟩ := Cond.classLink_spec hown hl1 e.platform hpl
        obtain ⟨a8, b8, h1, h2, h3⟩ := hn1
        cases Option.some.inj (h1.symm.trans hcl)
        cases Option.some.inj (h2.symm.trans hc6)
        exact Or.inr ⟨hz0, _, hcl6, h3⟩)
  obtain ⟨g₀, hfr⟩ := X'.frames_eq
  have hcell9 : ((T.setVm vm').setFrames (.throwing q :: below)).heap[q]? = some ce := by
    show T.heap[q]? = some ce
    rw [hT]; exact hcell
  have hend : Ended ((T.setVm vm').setFrames (.throwing q :: below)) below (.threw q) := State.frames_setFrames _ (State.cur_lt_of_frames hfr)
  refine ⟨(T.setVm vm').setFrames (.throwing q :: below), ?_, .threw q, X'.here.running, hend, Or.inr ⟨q, rfl, E, ce, locs, hx _ hT (X'.ends _).1.alike, hcell9, hv, hcl, (X'.ends _).1, (X'.ends _).2.mono hc hs, hf⟩⟩
  rw [X.pushThrowing_eq]
  exact st
/-- a thing of a world lies in the heap -/
theorem vx_lt {D : va_G} {cl : List vw_C} {ws : va_W} {H1 : Heap} (h : va_P D cl ws H1) {k : Nat} {q : Nat × va_E} (hk : ws[k]? = some q) : q.1 < H1.size := (h k q hk).lt
end VXS
/-! ===== END ===== -/
/-! ===== BEGIN methods with a table of their own: called by a name, returning or throwing ===== -/
section VXH
/-! vx_backW, vx_callVX, vx_callSX, vx_callVW, vx_runVW, vx_runVX, vx_runSX, vx_ofWH follow the same proofs as their sisters above (Free/Laws.lean, Shelf42/LK1.lean); vx_outP calls Shelf42/NT130.lean (outThrough). -/
section
variable {l : Launch} {R : Room} {p : Program} {e : Env} {below : List Frame} {s : State} {sargs : Array Value} {y : MethodName} {len W9 : Nat}
theorem vx_backW {ws : List Cond} {rm : Room} {Pc : Array Value → State → Prop} {Qc : Array Value → State → Outcome → State → Prop} {XC : String → State → State → Prop} {mc ms : Nat} {free : Addr → Prop} {bytes : ByteArray} {maxL : Nat} {ret : Option FieldType} {hh : List (Nat × Nat × Nat × Nat)}
    (hM : vx_Met l y ws rm Pc Qc XC mc ms free) (hblind : FrameBlind Pc) (hrc : rm.cells = mc) (hrs : rm.slots = ms)
    (hframes : rm.frames + 1 ≤ R.frames) (hlocals : W9 + (maxL + 11) + rm.locals ≤ R.locals)
    (hws : ∀ w ∈ ws, ∀ a' U, s.WarmedH U.vm → w.before a' U = true) (hcode : Cond.codeWith y bytes maxL ret hh ∈ ws) (hinit : ∀ a' U, s.WarmedH U.vm → (Cond.initialized y.cls).before a' U = true) :
    vx_Back l R p e below s sargs y len W9 (PreOf R mc ms Pc) (PostOf Qc mc ms free) (vx_Post XC mc ms free) := by
  intro m meth c A g ig mk a X hg hsize hdg hW hn hp
  have h1 : (headSpec ws rm).pre.before a A.U = true := atoms_intro fun w hw => hws w hw _ _ X.warmed
  have h2 : (Cond.codeWith y bytes maxL ret hh).before a A.U = true := hws _ hcode _ _ X.warmed
  have h3 : (Cond.initialized y.cls).before a A.U = true := hinit _ _ X.warmed
  have h4 : A.cells + (headSpec ws rm).room.cells ≤ R.cells := by rw [show (headSpec ws rm).room.cells = mc from hrc]; exact hp.1
  have h5 : A.slots + (headSpec ws rm).room.slots ≤ R.slots := by rw [show (headSpec ws rm).room.slots = ms from hrs]; exact hp.2.1
  have hPc : Pc a (A.U.calling g mk a) := hblind _ _ _ _ hp.2.2
  obtain ⟨U, Ls, c0, s0⟩ := A
  dsimp only [Pt.U, Pt.locs, Pt.cells, Pt.slots] at h1 h2 h3 h4 h5 X hn hPc ⊢
  obtain ⟨m9, methY, cY, hn9, hmY, hcY, -, hlY, -⟩ := Cond.codeWith_spec h2
  cases Option.some.inj (hn9.symm.trans hn)
  obtain ⟨kY, hkY, -⟩ := className_of_methodNamed hn
  have hinitY : kY.init = .initialized := Cond.initialized_spec (findClass_of_methodNamed hn) hkY h3
  have h : At U g.method c below := by rw [hg]; exact X.here
  have hlocals9 : W9 + (maxL + 11) + (headSpec ws rm).room.locals ≤ R.locals := hlocals
  have happ : (headSpec ws rm).appliesLoose y e.platform (U.calling g mk a) = true :=
    Spec.appliesLoose_calling (g := g) h hdg hn hkY hinitY
      (X.room_calling (g := g) (R' := (headSpec ws rm).room) hsize hmY hcY hframes (by rw [hlY]; omega) h4 h5) h1
  obtain ⟨mid, hmid⟩ := h.above
  have hfr : (U.setTop g).frames = (.java g :: mid) ++ below := by rw [State.frames_setTop' g h.top, hmid]; rfl
  obtain ⟨o, s₂, hsteps, -, hend, hq⟩ := Steps.callFree hM p X.admits X.cas X.clock (acts := []) hfr happ hPc trivial
  have hq' : vx_Q Qc XC mc ms free a (U.calling g mk a) o s₂ := hq
  rw [State.frames_setTop' g h.top] at hend
  obtain ⟨g₀, hg0⟩ := Option.isSome_iff_exists.mp h.top
  obtain ⟨r, hr⟩ := State.topJava?_eq_some.mp hg0
  have hr' : (({ U with heap := s₂.heap, slotsUsed := s₂.slotsUsed } : State).setVm s₂.vm).frames = .java g₀ :: r := hr
  rcases hq' with ⟨hqc, L, hfe, hL⟩ | ⟨q, rfl, E, ce, L, hx, hce, hcv, hcl, hW₂, hsm, hL⟩
  · obtain ⟨⟨v, rfl⟩, hW₂, e2, q2, q3, q4, q5, q6⟩ := id hfe
    have e3 : s₂ = ({ (U.calling g mk a).setFrames s₂.frames with heap := s₂.heap, slotsUsed := s₂.slotsUsed } : State).setVm s₂.vm := by
      have : s₂ = ({ s₂ with vm := (U.calling g mk a).vm } : State).setVm s₂.vm := rfl
      rw [e2] at this
      exact this
    obtain ⟨c₂, i₂, len₂, hc₂, hd₂, hf₂⟩ := hend
    have hW' : U.WarmedH s₂.vm := hW₂
    have hcc : c₂ = c := by
      have h1 : s₂.code? g.method = U.code? g.method := by
        rw [State.code?_eq, State.code?_eq, hW'.alike.method?]
      exact Option.some.inj (hc₂.symm.trans (h1.trans h.code))
    subst hcc
    have hlen : len₂ = len := by rw [hdg] at hd₂; cases hd₂; rfl
    subst hlen
    have hs₂ : s₂ = (({ U with heap := s₂.heap, slotsUsed := s₂.slotsUsed } : State).setVm s₂.vm).setTop { g with pc := g.pc + len₂, stack := v.toList ++ g.stack } := by
      refine e3.trans ?_
      rw [hf₂, State.calling_eq h.top, State.setFrames_setFrames, State.setTop_of_frames _ hr', hr]
      rfl
    have hsame : U.sameButNew ({ U with heap := s₂.heap, slotsUsed := s₂.slotsUsed } : State) L mc ms := by
      refine ⟨?_, q2, q3, q4, q5, q6⟩
      obtain ⟨t, ht, -⟩ := State.frames_cons hr
      show ({ U with heap := s₂.heap, slotsUsed := s₂.slotsUsed } : State) = { U.setFrames U.frames with heap := s₂.heap, slotsUsed := s₂.slotsUsed }
      rw [State.setFrames_self ht]
    subst hg
    refine Or.inl ⟨v, ⟨(({ U with heap := s₂.heap, slotsUsed := s₂.slotsUsed } : State).setVm s₂.vm), Ls ++ L, c0 + mc, s0 + ms⟩,
      ⟨X.admits, X.cas, X.clock, X.frames, X.room, X.hears, X.method, X.code, (X.here.setHeapUsed s₂.heap s₂.slotsUsed).setVm hW'.alike, X.tail, State.WarmedH.trans X.warmed hW', X.limits, X.bytes, X.same.trans (hsame.setVm s.vm)⟩,
      ⟨g, mk, s₂, L, rfl, rfl, hqc, rfl, hL, rfl, rfl⟩, ?_⟩
    show Steps p.tables e below _ ((({ U with heap := s₂.heap, slotsUsed := s₂.slotsUsed } : State).setVm s₂.vm).setTop { g with pc := g.pc + len₂, stack := v.toList ++ g.stack })
    rw [← hs₂]
    exact hsteps
  · obtain ⟨e2, q2, q3, q4, q5, q6⟩ := id hsm
    have e3 : s₂ = ({ (U.calling g mk a).setFrames s₂.frames with heap := s₂.heap, slotsUsed := s₂.slotsUsed } : State).setVm s₂.vm := by
      have : s₂ = ({ s₂ with vm := (U.calling g mk a).vm } : State).setVm s₂.vm := rfl
      rw [e2] at this
      exact this
    have hf₂ : s₂.frames = .throwing q :: .java g :: U.frames.tail := hend
    have hW' : U.WarmedH s₂.vm := hW₂
    have hs₂ : s₂ = ((({ U with heap := s₂.heap, slotsUsed := s₂.slotsUsed } : State).setVm s₂.vm).setTop g).pushFrame (.throwing q) := by
      refine e3.trans ?_
      rw [hf₂, State.calling_eq h.top, State.setFrames_setFrames, State.pushFrame, State.frames_setTop _ hr', State.setTop_of_frames _ hr', State.setFrames_setFrames, hr]
      rfl
    have hsame : U.sameButNew ({ U with heap := s₂.heap, slotsUsed := s₂.slotsUsed } : State) L mc ms := by
      refine ⟨?_, q2, q3, q4, q5, q6⟩
      obtain ⟨t, ht, -⟩ := State.frames_cons hr
      show ({ U with heap := s₂.heap, slotsUsed := s₂.slotsUsed } : State) = { U.setFrames U.frames with heap := s₂.heap, slotsUsed := s₂.slotsUsed }
      rw [State.setFrames_self ht]
    subst hg
    refine Or.inr ⟨q, ⟨(({ U with heap := s₂.heap, slotsUsed := s₂.slotsUsed } : State).setVm s₂.vm), Ls ++ L, c0 + mc, s0 + ms⟩,
      ⟨X.admits, X.cas, X.clock, X.frames, X.room, X.hears, X.method, X.code, (X.here.setHeapUsed s₂.heap s₂.slotsUsed).setVm hW'.alike, X.tail, State.WarmedH.trans X.warmed hW', X.limits, X.bytes, X.same.trans (hsame.setVm s.vm)⟩,
      ⟨g, mk, s₂, L, E, ce, rfl, rfl, hx, hce, hcv, hcl, rfl, hL, rfl, rfl⟩, ?_⟩
    show Steps p.tables e below _ (((({ U with heap := s₂.heap, slotsUsed := s₂.slotsUsed } : State).setVm s₂.vm).setTop g).pushFrame (.throwing q))
    rw [← hs₂]
    exact hsteps
end
variable {p : Program} {l : Launch} {e : Env} {R : Room} {s : State} {m : MethodId} {args : Array Value} {below : List Frame} {meth : Method} {c : Code} {T : State} {H : Heap} {locs : List Loc} {cells slots : Nat}
theorem vx_callVX (X : Stand p l e R s m args below meth c T locs cells slots) (hexec : p.tables.exec = Jvm.exec) {own C : String} {index : Nat} {y : MethodName} {bytes : ByteArray} {maxL : Nat} {ret : Option FieldType} {hh : List (Nat × Nat × Nat × Nat)}
    (hown : s.vm.findClass own = some m.cls) (hlink : (Cond.methodLink own index y).before args s = true) (hinst : (Cond.instanceMethod y).before args s = true) (hsel : (Cond.selects C y y).before args s = true)
    (hcode : (Cond.codeWith y bytes maxL ret hh).before args s = true) (hy : y.cls ≠ "java/lang/invoke/MethodHandle" ∧ y.cls ≠ "java/lang/invoke/VarHandle")
    {W9 : Nat} {Pre : Pt → Array Value → Prop} {Post : Pt → Array Value → Option Value → Pt → Prop} {PostX : Pt → Array Value → Addr → Pt → Prop} (hK : vx_Back l R p e below s args y 3 W9 Pre Post PostX)
    {b : Addr} {cellB : Cell} (hcell : T.heap[b]? = some cellB) (hobj : cellB.vm.isStatics = false) (hcls : s.vm.findClass C = some cellB.cls)
    {g : JFrame} (hg : g.method = m) (hsize : g.locals.size = c.maxLocals) {argsL rest : List Value} (hlen : ∀ sig, parseMethodDescriptor y.desc = some sig → argsL.length = sig.parameters.length)
    (hstack : g.stack = argsL.reverse ++ .ref b :: rest) (hW : 2 * g.monitorRoom + (rest.map fun v => v.category).sum ≤ W9) (hdg : decode c.code g.pc = .ok (.invokevirtual index, 3))
    (hpre : ∀ vm₁, s.WarmedH vm₁ → Pre ⟨T.setVm vm₁, locs, cells, slots⟩ (Value.ref b :: argsL).toArray) :
    (∃ (v : Option Value) (vm₁ : Vm) (B : Pt), s.WarmedH vm₁ ∧ Stand p l e R s m args below meth c B.U B.locs B.cells B.slots ∧ Post ⟨T.setVm vm₁, locs, cells, slots⟩ (Value.ref b :: argsL).toArray v B ∧
      ∀ target, Steps p.tables e below (B.U.setTop { g with pc := g.pc + 3, stack := v.toList ++ rest }) target → Steps p.tables e below (T.setTop g) target) ∨
    (∃ (q : Addr) (vm₁ : Vm) (B : Pt), s.WarmedH vm₁ ∧ Stand p l e R s m args below meth c B.U B.locs B.cells B.slots ∧ PostX ⟨T.setVm vm₁, locs, cells, slots⟩ (Value.ref b :: argsL).toArray q B ∧
      Steps p.tables e below (T.setTop g) ((B.U.setTop { g with stack := rest }).pushFrame (.throwing q))) := by
  obtain ⟨mk, methM, hnamed, hmethM, hstM, habM⟩ := Cond.instanceMethod_spec hinst
  obtain ⟨m8, methM', cM, hn8, hmethM', -, -, -, -, -, -, hsigM⟩ := Cond.codeWith_spec hcode
  cases Option.some.inj (hn8.symm.trans hnamed)
  cases hmethM.symm.trans hmethM'
  obtain ⟨c2, r2, m2, q1, q2, q3, q4, kP, hkP, hkPi⟩ := Cond.selects_spec hsel
  cases hcls.symm.trans q1
  cases (State.methodFound?_of_named hnamed hy).symm.trans q2
  cases hnamed.symm.trans q3
  have hselP : selectMethod e.platform s.vm cellB.cls mk = .method mk := by rw [Launch.admits_selectMethod X.admits]; exact q4
  obtain ⟨vm₁, X₁, hstep₁⟩ := X.invokevirtual hexec hown hlink hnamed hmethM hstM hkP hkPi hy (a := b) (cell := cellB) hcell
    (fun z h => by rw [h] at hobj; cases hobj) hselP hmethM habM hkP hkPi (g := g) hg (argsL := argsL) (rest := rest) (hlen _ hsigM) hstack hdg
  rcases hK m meth c ⟨T.setVm vm₁, locs, cells, slots⟩ { g with stack := rest } (.invokevirtual index) mk (Value.ref b :: argsL).toArray X₁ hg hsize hdg hW (X₁.named hnamed) (hpre vm₁ X₁.warmed) with ⟨v, B, X', hpost, hsteps⟩ | ⟨q, B, X', hpost, hsteps⟩
  · exact Or.inl ⟨v, vm₁, B, X₁.warmed, X', hpost, fun target h => hstep₁ _ fun acts => by rw [doInvoke_state]; exact hsteps.trans h⟩
  · exact Or.inr ⟨q, vm₁, B, X₁.warmed, X', hpost, hstep₁ _ fun acts => by rw [doInvoke_state]; exact hsteps⟩
theorem vx_callSX (X : Stand p l e R s m args below meth c T locs cells slots) (hexec : p.tables.exec = Jvm.exec) {own : String} {index : Nat} {y : MethodName} {bytes : ByteArray} {maxL : Nat} {ret : Option FieldType} {hh : List (Nat × Nat × Nat × Nat)}
    (hown : s.vm.findClass own = some m.cls) (hlink : (Cond.methodLink own index y).before args s = true) (hstat : (Cond.static y).before args s = true) (hinit : (Cond.initialized y.cls).before args s = true)
    (hcode : (Cond.codeWith y bytes maxL ret hh).before args s = true) (hy : y.cls ≠ "java/lang/invoke/MethodHandle" ∧ y.cls ≠ "java/lang/invoke/VarHandle")
    {W9 : Nat} {Pre : Pt → Array Value → Prop} {Post : Pt → Array Value → Option Value → Pt → Prop} {PostX : Pt → Array Value → Addr → Pt → Prop} (hK : vx_Back l R p e below s args y 3 W9 Pre Post PostX)
    {g : JFrame} (hg : g.method = m) (hsize : g.locals.size = c.maxLocals) {argsL rest : List Value} (hlen : ∀ sig, parseMethodDescriptor y.desc = some sig → argsL.length = sig.parameters.length)
    (hstack : g.stack = argsL.reverse ++ rest) (hW : 2 * g.monitorRoom + (rest.map fun v => v.category).sum ≤ W9) (hdg : decode c.code g.pc = .ok (.invokestatic index, 3))
    (hpre : ∀ vm₁, s.WarmedH vm₁ → Pre ⟨T.setVm vm₁, locs, cells, slots⟩ argsL.toArray) :
    (∃ (v : Option Value) (vm₁ : Vm) (B : Pt), s.WarmedH vm₁ ∧ Stand p l e R s m args below meth c B.U B.locs B.cells B.slots ∧ Post ⟨T.setVm vm₁, locs, cells, slots⟩ argsL.toArray v B ∧
      ∀ target, Steps p.tables e below (B.U.setTop { g with pc := g.pc + 3, stack := v.toList ++ rest }) target → Steps p.tables e below (T.setTop g) target) ∨
    (∃ (q : Addr) (vm₁ : Vm) (B : Pt), s.WarmedH vm₁ ∧ Stand p l e R s m args below meth c B.U B.locs B.cells B.slots ∧ PostX ⟨T.setVm vm₁, locs, cells, slots⟩ argsL.toArray q B ∧
      Steps p.tables e below (T.setTop g) ((B.U.setTop { g with stack := rest }).pushFrame (.throwing q))) := by
  obtain ⟨mk, methM, cM, hnamed, hmethM, -, -, -, -, -, -, hsigM⟩ := Cond.codeWith_spec hcode
  have hstatic : methM.isStatic = true := Cond.static_spec hnamed hmethM hstat
  obtain ⟨kP, hkP, -⟩ := className_of_methodNamed hnamed
  have hinitP : kP.init = .initialized := Cond.initialized_spec (findClass_of_methodNamed hnamed) hkP hinit
  obtain ⟨vm₁, X₁, hstep₁⟩ := X.invokestatic hexec hown hlink hnamed hmethM hstatic hkP hinitP hy (g := g) hg (argsL := argsL) (rest := rest) (hlen _ hsigM) hstack hdg
  rcases hK m meth c ⟨T.setVm vm₁, locs, cells, slots⟩ { g with stack := rest } (.invokestatic index) mk argsL.toArray X₁ hg hsize hdg hW (X₁.named hnamed) (hpre vm₁ X₁.warmed) with ⟨v, B, X', hpost, hsteps⟩ | ⟨q, B, X', hpost, hsteps⟩
  · exact Or.inl ⟨v, vm₁, B, X₁.warmed, X', hpost, fun target h => hstep₁ _ fun acts => by rw [doInvoke_state]; exact hsteps.trans h⟩
  · exact Or.inr ⟨q, vm₁, B, X₁.warmed, X', hpost, hstep₁ _ fun acts => by rw [doInvoke_state]; exact hsteps⟩
theorem vx_callVW (X : Stand p l e R s m args below meth c T locs cells slots) (hexec : p.tables.exec = Jvm.exec) {own C : String} {index : Nat} {y : MethodName} {bytes : ByteArray} {maxL : Nat} {ret : Option FieldType} {hh : List (Nat × Nat × Nat × Nat)}
    (hown : s.vm.findClass own = some m.cls) (hlink : (Cond.methodLink own index y).before args s = true) (hinst : (Cond.instanceMethod y).before args s = true) (hsel : (Cond.selects C y y).before args s = true)
    (hcode : (Cond.codeWith y bytes maxL ret hh).before args s = true) (hy : y.cls ≠ "java/lang/invoke/MethodHandle" ∧ y.cls ≠ "java/lang/invoke/VarHandle")
    {W9 : Nat} {Pre : Pt → Array Value → Prop} {Post : Pt → Array Value → Option Value → Pt → Prop} (hK : Back l R p e below s args y 3 W9 Pre Post)
    {b : Addr} {cellB : Cell} (hcell : T.heap[b]? = some cellB) (hobj : cellB.vm.isStatics = false) (hcls : s.vm.findClass C = some cellB.cls)
    {g : JFrame} (hg : g.method = m) (hsize : g.locals.size = c.maxLocals) {argsL rest : List Value} (hlen : ∀ sig, parseMethodDescriptor y.desc = some sig → argsL.length = sig.parameters.length)
    (hstack : g.stack = argsL.reverse ++ .ref b :: rest) (hW : 2 * g.monitorRoom + (rest.map fun v => v.category).sum ≤ W9) (hdg : decode c.code g.pc = .ok (.invokevirtual index, 3))
    (hpre : ∀ vm₁, s.WarmedH vm₁ → Pre ⟨T.setVm vm₁, locs, cells, slots⟩ (Value.ref b :: argsL).toArray) :
    ∃ (v : Option Value) (vm₁ : Vm) (B : Pt), s.WarmedH vm₁ ∧ Stand p l e R s m args below meth c B.U B.locs B.cells B.slots ∧ Post ⟨T.setVm vm₁, locs, cells, slots⟩ (Value.ref b :: argsL).toArray v B ∧
      ∀ target, Steps p.tables e below (B.U.setTop { g with pc := g.pc + 3, stack := v.toList ++ rest }) target → Steps p.tables e below (T.setTop g) target := by
  obtain ⟨mk, methM, hnamed, hmethM, hstM, habM⟩ := Cond.instanceMethod_spec hinst
  obtain ⟨m8, methM', cM, hn8, hmethM', -, -, -, -, -, -, hsigM⟩ := Cond.codeWith_spec hcode
  cases Option.some.inj (hn8.symm.trans hnamed)
  cases hmethM.symm.trans hmethM'
  obtain ⟨c2, r2, m2, q1, q2, q3, q4, kP, hkP, hkPi⟩ := Cond.selects_spec hsel
  cases hcls.symm.trans q1
  cases (State.methodFound?_of_named hnamed hy).symm.trans q2
  cases hnamed.symm.trans q3
  have hselP : selectMethod e.platform s.vm cellB.cls mk = .method mk := by rw [Launch.admits_selectMethod X.admits]; exact q4
  obtain ⟨vm₁, X₁, hstep₁⟩ := X.invokevirtual hexec hown hlink hnamed hmethM hstM hkP hkPi hy (a := b) (cell := cellB) hcell
    (fun z h => by rw [h] at hobj; cases hobj) hselP hmethM habM hkP hkPi (g := g) hg (argsL := argsL) (rest := rest) (hlen _ hsigM) hstack hdg
  obtain ⟨v, B, X', hpost, hsteps⟩ := hK m meth c ⟨T.setVm vm₁, locs, cells, slots⟩ { g with stack := rest } (.invokevirtual index) mk (Value.ref b :: argsL).toArray X₁ hg hsize hdg hW (X₁.named hnamed) (hpre vm₁ X₁.warmed)
  exact ⟨v, vm₁, B, X₁.warmed, X', hpost, fun target h => hstep₁ _ fun acts => by rw [doInvoke_state]; exact hsteps.trans h⟩
abbrev vx_CVW (R : Room) (s : State) (args : Array Value) (own C : String) (index : Nat) (y : MethodName) (bytes : ByteArray) (maxL : Nat) (ret : Option FieldType) (hh : List (Nat × Nat × Nat × Nat)) (ws : List Cond) (rm : Room) (mc ms n : Nat) : Prop :=
  (rm.cells = mc ∧ rm.slots = ms ∧ rm.frames + 1 ≤ R.frames ∧ 8 + (maxL + 11) + rm.locals ≤ R.locals ∧ (∀ w ∈ ws, ∀ (a' : Array Value) (U : State), s.WarmedH U.vm → w.before a' U = true) ∧ Cond.codeWith y bytes maxL ret hh ∈ ws) ∧
  (Cond.codeWith y bytes maxL ret hh).before args s = true ∧ (Cond.initialized y.cls).before args s = true ∧ (y.cls ≠ "java/lang/invoke/MethodHandle" ∧ y.cls ≠ "java/lang/invoke/VarHandle") ∧
  (∀ sig, parseMethodDescriptor y.desc = some sig → n = sig.parameters.length) ∧ (Cond.methodLink own index y).before args s = true ∧ (Cond.instanceMethod y).before args s = true ∧ (Cond.selects C y y).before args s = true
theorem vx_cwVW {own C : String} {index maxL mc ms : Nat} {y : MethodName} {bytes : ByteArray} {ret : Option FieldType} {hh : List (Nat × Nat × Nat × Nat)} {Ts ws ws' : List Cond} {rm : Room} (n : Nat) (ht : ∀ w ∈ Ts, w.before args s = true) (hT : GoodIn Ts (wsV own index C y ws)) (hw : ws = Cond.codeWith y bytes maxL ret hh :: ws') (hrc : rm.cells = mc) (hrs : rm.slots = ms)
    (hd : y.cls = C ∧ y.cls ≠ "java/lang/invoke/MethodHandle" ∧ y.cls ≠ "java/lang/invoke/VarHandle" ∧ (parseMethodDescriptor y.desc).map (fun d => d.parameters.length) = some n) (hR : rm.frames + 1 ≤ R.frames ∧ 8 + (maxL + 11) + rm.locals ≤ R.locals) :
    vx_CVW R s args own C index y bytes maxL ret hh ws rm mc ms n := by
  obtain ⟨hC, hd⟩ := hd
  subst hC
  have ok : ∀ w ∈ wsV own index y.cls y ws, w.before args s = true := fun w h => ht w (hT w h).1
  have hG : GoodIn Ts ws := fun w h => hT w (by unfold wsV; exact List.mem_append_right _ h)
  have hc : Cond.codeWith y bytes maxL ret hh ∈ ws := by rw [hw]; exact List.mem_cons_self
  refine ⟨⟨hrc, hrs, hR.1, hR.2, pay_in ht hG, hc⟩, ht _ (hG _ hc).1, ok _ (by simp [wsV]), ⟨hd.1, hd.2.1⟩, fun sig h => ?_, ok _ (by simp [wsV]), ok _ (by simp [wsV]), ok _ (by simp [wsV])⟩
  have h2 := hd.2.2
  rw [h] at h2
  exact (Option.some.inj h2).symm
theorem vx_runVW {y : MethodName} {bytes cc : ByteArray} {maxL nL mc ms n index : Nat} {ret : Option FieldType} {hh : List (Nat × Nat × Nat × Nat)} {ws : List Cond} {rm : Room} {Pc : Array Value → State → Prop} {Qc : Array Value → State → Outcome → State → Prop} {free : Addr → Prop} {Ts : List Cond} {own C : String} {b : Addr} {As rest : List Value} {g : JFrame}
    (S : CallFix p m c cc nL s args Ts own) (hM : Met l y ws rm Pc Qc mc ms free) (cw : vx_CVW R s args own C index y bytes maxL ret hh ws rm mc ms n) (hp : PreV s H C b Pc As)
    (hg : g.method = m) (hn : As.length = n) (hsize : g.locals.size = nL) (hstack : g.stack = As.reverse ++ .ref b :: rest) (hW : 2 * g.monitorRoom + (rest.map fun v => v.category).sum ≤ 8) (hdg : decode cc g.pc = .ok (.invokevirtual index, 3)) (hf : cells + mc ≤ R.cells ∧ slots + ms ≤ R.slots) :
    va_Run p l e R s m args below meth c H locs cells slots mc ms g rest (Qc (Value.ref b :: As).toArray) free := by
  obtain ⟨⟨hrc, hrs, hfr, hlo, hws, hcw⟩, hcode, hini, hy, hlen, hl, hin, hse⟩ := cw
  have hK : Back l R p e below s args y 3 8 (PreOf R mc ms Pc) (PostOf Qc mc ms free) := va_backW (hh := hh) (bytes := bytes) (maxL := maxL) (ret := ret) hM hp.1 hrc hrs hfr hlo hws hcw (fun a' U hW => word_at hW (Or.inl (by first | rfl | simp [Cond.onTables, Cond.keeps, Cond.steady])) hini)
  obtain ⟨hx, hb, hml, ho, -⟩ := S
  obtain ⟨-, ⟨cellB, hcB, hoB, hclB⟩, hPc⟩ := hp
  intro T hT X
  obtain ⟨v, vm₁, ⟨U', l2, c2, s2⟩, hW₁, X', ⟨g', mk, t, L, e1, e2, hq, h1, hL, h2, h3⟩, st⟩ := vx_callVW X hx (C := C) (hh := hh) (bytes := bytes) (maxL := maxL) (ret := ret) ho hl hin hse hcode hy hK (by rw [hT]; exact hcB) hoB hclB hg (hsize.trans hml.symm) (argsL := As) (rest := rest) (fun sig h => hn.trans (hlen sig h)) hstack hW (by rw [hb]; exact hdg)
    (fun vm₁ hW₁ => ⟨hf.1, hf.2, hPc (T.setVm vm₁) hT hW₁⟩)
  dsimp only [Pt.U, Pt.locs, Pt.cells, Pt.slots] at X' e1 e2 h1 h2 h3 st
  subst h1; subst h2; subst h3
  exact ⟨v, (T.setVm vm₁).calling g' mk (Value.ref b :: As).toArray, t, U', L, hT, X', hL, e1, e2, hq, st⟩
section
variable {y : MethodName} {bytes cc : ByteArray} {maxL nL mc ms n index : Nat} {ret : Option FieldType} {ws : List Cond} {rm : Room} {Pc : Array Value → State → Prop} {Qc : Array Value → State → Outcome → State → Prop} {XC : String → State → State → Prop} {free : Addr → Prop} {Ts : List Cond} {own C : String} {b : Addr} {As rest : List Value} {g : JFrame}
theorem vx_runVX {hh : List (Nat × Nat × Nat × Nat)} (S : CallFix p m c cc nL s args Ts own) (hM : vx_Met l y ws rm Pc Qc XC mc ms free) (cw : vx_CVW R s args own C index y bytes maxL ret hh ws rm mc ms n) (hp : PreV s H C b Pc As)
    (hg : g.method = m) (hn : As.length = n) (hsize : g.locals.size = nL) (hstack : g.stack = As.reverse ++ .ref b :: rest) (hW : 2 * g.monitorRoom + (rest.map fun v => v.category).sum ≤ 8) (hdg : decode cc g.pc = .ok (.invokevirtual index, 3)) (hf : cells + mc ≤ R.cells ∧ slots + ms ≤ R.slots) :
    vx_Run p l e R s m args below meth c H locs cells slots mc ms g rest (Qc (Value.ref b :: As).toArray) XC free := by
  obtain ⟨⟨hrc, hrs, hfr, hlo, hws, hcw⟩, hcode, hini, hy, hlen, hl, hin, hse⟩ := cw
  have hK : vx_Back l R p e below s args y 3 8 (PreOf R mc ms Pc) (PostOf Qc mc ms free) (vx_Post XC mc ms free) := vx_backW (hh := hh) (bytes := bytes) (maxL := maxL) (ret := ret) hM hp.1 hrc hrs hfr hlo hws hcw (fun a' U hW => word_at hW (Or.inl (by first | rfl | simp [Cond.onTables, Cond.keeps, Cond.steady])) hini)
  obtain ⟨hx, hb, hml, ho, -⟩ := S
  obtain ⟨-, ⟨cellB, hcB, hoB, hclB⟩, hPc⟩ := hp
  intro T hT X
  rcases vx_callVX X hx (C := C) (hh := hh) (bytes := bytes) (maxL := maxL) (ret := ret) ho hl hin hse hcode hy hK (by rw [hT]; exact hcB) hoB hclB hg (hsize.trans hml.symm) (argsL := As) (rest := rest) (fun sig h => hn.trans (hlen sig h)) hstack hW (by rw [hb]; exact hdg)
    (fun vm₁ hW₁ => ⟨hf.1, hf.2, hPc (T.setVm vm₁) hT hW₁⟩) with ⟨v, vm₁, ⟨U', l2, c2, s2⟩, hW₁, X', ⟨g', mk, t, L, e1, e2, hq, h1, hL, h2, h3⟩, st⟩ | ⟨q, vm₁, ⟨U', l2, c2, s2⟩, hW₁, X', ⟨g', mk, t, L, E, ce, e1, e2, hq, hce, hcv, hcl, h1, hL, h2, h3⟩, st⟩
  · dsimp only [Pt.U, Pt.locs, Pt.cells, Pt.slots] at X' e1 e2 h1 h2 h3 st
    subst h1; subst h2; subst h3
    exact Or.inl ⟨v, (T.setVm vm₁).calling g' mk (Value.ref b :: As).toArray, t, U', L, hT, X', hL, e1, e2, hq, st⟩
  · dsimp only [Pt.U, Pt.locs, Pt.cells, Pt.slots] at X' e1 e2 h1 h2 h3 st hcl
    subst h1; subst h2; subst h3
    exact Or.inr ⟨q, (T.setVm vm₁).calling g' mk (Value.ref b :: As).toArray, t, U', L, E, ce, hT, X', hL, e1, e2, hq, hce, hcv, vx_cls hW₁ hcl, st⟩
theorem vx_runSX {hh : List (Nat × Nat × Nat × Nat)} (S : CallFix p m c cc nL s args Ts own) (hM : vx_Met l y ws rm Pc Qc XC mc ms free) (cw : vx_CSW R s args own index y bytes maxL ret hh ws rm mc ms n) (hp : PreS s H Pc As)
    (hg : g.method = m) (hn : As.length = n) (hsize : g.locals.size = nL) (hstack : g.stack = As.reverse ++ rest) (hW : 2 * g.monitorRoom + (rest.map fun v => v.category).sum ≤ 8) (hdg : decode cc g.pc = .ok (.invokestatic index, 3)) (hf : cells + mc ≤ R.cells ∧ slots + ms ≤ R.slots) :
    vx_Run p l e R s m args below meth c H locs cells slots mc ms g rest (Qc As.toArray) XC free := by
  obtain ⟨⟨hrc, hrs, hfr, hlo, hws, hcw⟩, hcode, hini, hy, hlen, hl, hstt⟩ := cw
  have hK : vx_Back l R p e below s args y 3 8 (PreOf R mc ms Pc) (PostOf Qc mc ms free) (vx_Post XC mc ms free) := vx_backW (hh := hh) (bytes := bytes) (maxL := maxL) (ret := ret) hM hp.1 hrc hrs hfr hlo hws hcw (fun a' U hW => word_at hW (Or.inl (by first | rfl | simp [Cond.onTables, Cond.keeps, Cond.steady])) hini)
  obtain ⟨hx, hb, hml, ho, -⟩ := S
  intro T hT X
  rcases vx_callSX X hx (hh := hh) (bytes := bytes) (maxL := maxL) (ret := ret) ho hl hstt hini hcode hy hK hg (hsize.trans hml.symm) (argsL := As) (rest := rest) (fun sig h => hn.trans (hlen sig h)) hstack hW (by rw [hb]; exact hdg)
    (fun vm₁ hW₁ => ⟨hf.1, hf.2, hp.2 (T.setVm vm₁) hT hW₁⟩) with ⟨v, vm₁, ⟨U', l2, c2, s2⟩, hW₁, X', ⟨g', mk, t, L, e1, e2, hq, h1, hL, h2, h3⟩, st⟩ | ⟨q, vm₁, ⟨U', l2, c2, s2⟩, hW₁, X', ⟨g', mk, t, L, E, ce, e1, e2, hq, hce, hcv, hcl, h1, hL, h2, h3⟩, st⟩
  · dsimp only [Pt.U, Pt.locs, Pt.cells, Pt.slots] at X' e1 e2 h1 h2 h3 st
    subst h1; subst h2; subst h3
    exact Or.inl ⟨v, (T.setVm vm₁).calling g' mk As.toArray, t, U', L, hT, X', hL, e1, e2, hq, st⟩
  · dsimp only [Pt.U, Pt.locs, Pt.cells, Pt.slots] at X' e1 e2 h1 h2 h3 st hcl
    subst h1; subst h2; subst h3
    exact Or.inr ⟨q, (T.setVm vm₁).calling g' mk As.toArray, t, U', L, E, ce, hT, X', hL, e1, e2, hq, hce, hcv, vx_cls hW₁ hcl, st⟩
end
end VXH
theorem vx_ofWH {l : Launch} {y : MethodName} {ws ws' : List Cond} {rm : Room} {Pc : Array Value → State → Prop} {Qc : Array Value → State → Outcome → State → Prop} {XC : String → State → State → Prop} {mc ms : Nat} {free : Addr → Prop} {cc : ByteArray} {maxL : Nat} {ret : Option FieldType} {hh : List (Nat × Nat × Nat × Nat)}
    (hy : plainName y.cls = true) (hw : ws = Cond.codeWith y cc maxL ret hh :: ws')
    (body : ∀ p e s m args below meth c s₁, BodyLoose p l y (headSpec ws rm) cc maxL ret e s m args below meth c s₁ → c.maxLocals = maxL → Pc args s →
      W p l e (headSpec ws rm).room s m args below meth c s.heap [] 0 0 (vx_MQ below Qc XC args s mc ms free) (entryFrame m args maxL)) : vx_Met l y ws rm Pc Qc XC mc ms free := by
  refine MetFree.of_bodyS (code := cc) (maxLocals := maxL) (ret := ret) hy ?_ ?_
  · intro args s m h hn
    obtain ⟨m9, meth, c, hn9, h1, h2, h3, h4, -, h5, h6, -⟩ := Cond.codeWith_spec (atoms_spec (ws := ws) h _ (by rw [hw]; exact List.mem_cons_self))
    cases hn.symm.trans hn9
    exact ⟨meth, c, h1, h2, h3, h4, h5, h6⟩
  · intro p e s m args below meth c s₁ B hml hP _
    have hh0 : s₁.heap = s.heap := by rw [B.state]; rfl
    obtain ⟨t, a1, o, b1, b2, b3⟩ := body p e s m args below meth c s₁ B hml hP s₁ hh0 (Stand.of_body B)
    exact ⟨t, o, a1, b1, b2, b3⟩
/-! ===== END ===== -/

/-! ===== BEGIN printed: names, fields, word lists, decode rows ===== -/
def RX0 : String := "ListMemory$Collector"
def TX0 : u_T := fun k => match k with
  | 0 => ("ListMemory$Collector", "listed", "[I", true)
  | 1 => ("ListMemory$Collector", "isListed", "[I", true)
  | 2 => ("ListMemory$Collector", "isRest", "[I", true)
  | 3 => ("ListMemory$Collector", "newPlaces", "[I", true)
  | _ => ("ListMemory$Collector", "many", "I", false)
def tyX0 : Nat → FieldType := fun k => match k with
  | 0 => .array .int
  | 1 => .array .int
  | 2 => .array .int
  | 3 => .array .int
  | _ => .int
abbrev wsX00 : List Cond := u_ws RX0 TX0 5
theorem nmX0 : ∀ a, a < 5 → ∀ b, b < 5 → a ≠ b → (TX0 a).2.1 ≠ (TX0 b).2.1 := by decide +kernel
theorem tyX0_ok : ∀ k, k < 5 → parseFieldDescriptor (TX0 k).2.2.1 = some (tyX0 k) := by decide +kernel
abbrev cX0_init : ByteArray := prog_2_method_1_code
def yX0_init : MethodName := ⟨RX0, "<init>", "()V"⟩
abbrev cX0_listReached : ByteArray := prog_2_method_2_code
def yX0_listReached : MethodName := ⟨RX0, "listReached", "(LListMemory$Half;[J)V"⟩
abbrev cX0_listPair : ByteArray := prog_2_method_3_code
def yX0_listPair : MethodName := ⟨RX0, "listPair", "(LListMemory$Half;J)V"⟩
abbrev cX0_layListed : ByteArray := prog_2_method_4_code
def yX0_layListed : MethodName := ⟨RX0, "layListed", "(LListMemory$Half;LListMemory$Half;Z)V"⟩
abbrev cX0_layCell : ByteArray := prog_2_method_5_code
def yX0_layCell : MethodName := ⟨RX0, "layCell", "(LListMemory$Half;LListMemory$Half;I)I"⟩
abbrev cX0_tellNewPlaces : ByteArray := prog_2_method_6_code
def yX0_tellNewPlaces : MethodName := ⟨RX0, "tellNewPlaces", "(LListMemory$Half;LListMemory$Half;[J)V"⟩
abbrev cX0_inNewHalf : ByteArray := prog_2_method_7_code
def yX0_inNewHalf : MethodName := ⟨RX0, "inNewHalf", "(LListMemory$Half;J)J"⟩
def RX1 : String := "ListMemory$Half"
def TX1 : u_T := fun k => match k with
  | 0 => ("ListMemory$Half", "codes", "[I", true)
  | 1 => ("ListMemory$Half", "contents", "[J", true)
  | _ => ("ListMemory$Half", "taken", "I", false)
def tyX1 : Nat → FieldType := fun k => match k with
  | 0 => .array .int
  | 1 => .array .long
  | _ => .int
abbrev wsX10 : List Cond := u_ws RX1 TX1 3
theorem nmX1 : ∀ a, a < 3 → ∀ b, b < 3 → a ≠ b → (TX1 a).2.1 ≠ (TX1 b).2.1 := by decide +kernel
theorem tyX1_ok : ∀ k, k < 3 → parseFieldDescriptor (TX1 k).2.2.1 = some (tyX1 k) := by decide +kernel
abbrev cX1_init : ByteArray := prog_3_method_1_code
def yX1_init : MethodName := ⟨RX1, "<init>", "()V"⟩
abbrev cX1_clear : ByteArray := prog_3_method_2_code
def yX1_clear : MethodName := ⟨RX1, "clear", "()V"⟩
abbrev cX1_codeAt : ByteArray := prog_3_method_5_code
def yX1_codeAt : MethodName := ⟨RX1, "codeAt", "(I)I"⟩
abbrev cX1_contentAt : ByteArray := prog_3_method_6_code
def yX1_contentAt : MethodName := ⟨RX1, "contentAt", "(I)J"⟩
abbrev cX1_setContent : ByteArray := prog_3_method_7_code
def yX1_setContent : MethodName := ⟨RX1, "setContent", "(IJ)V"⟩
abbrev cX1_take : ByteArray := prog_3_method_8_code
def yX1_take : MethodName := ⟨RX1, "take", "(IJ)I"⟩
abbrev cX1_takeTwo : ByteArray := prog_3_method_9_code
def yX1_takeTwo : MethodName := ⟨RX1, "takeTwo", "(JJ)I"⟩
abbrev cX1_cellOf : ByteArray := prog_3_method_10_code
def yX1_cellOf : MethodName := ⟨RX1, "cellOf", "(J)I"⟩
abbrev cX1_restOf : ByteArray := prog_3_method_11_code
def yX1_restOf : MethodName := ⟨RX1, "restOf", "(I)J"⟩
abbrev cX1_countMoved : ByteArray := prog_3_method_12_code
def yX1_countMoved : MethodName := ⟨RX1, "countMoved", "()I"⟩
def RX2 : String := "ListMemory$Matching"
def TX2 : u_T := fun k => match k with
  | 0 => ("ListMemory$Matching", "forth", "[I", true)
  | 1 => ("ListMemory$Matching", "back", "[I", true)
  | 2 => ("ListMemory$Matching", "waiting", "[I", true)
  | _ => ("ListMemory$Matching", "many", "I", false)
def tyX2 : Nat → FieldType := fun k => match k with
  | 0 => .array .int
  | 1 => .array .int
  | 2 => .array .int
  | _ => .int
abbrev wsX20 : List Cond := u_ws RX2 TX2 4
theorem nmX2 : ∀ a, a < 4 → ∀ b, b < 4 → a ≠ b → (TX2 a).2.1 ≠ (TX2 b).2.1 := by decide +kernel
theorem tyX2_ok : ∀ k, k < 4 → parseFieldDescriptor (TX2 k).2.2.1 = some (tyX2 k) := by decide +kernel
abbrev cX2_init : ByteArray := prog_4_method_1_code
def yX2_init : MethodName := ⟨RX2, "<init>", "()V"⟩
def RX3 : String := "ListMemory"
def TX3 : u_T := fun k => match k with
  | 0 => ("ListMemory", "roots", "[J", true)
  | 1 => ("ListMemory", "collector", "LListMemory$Collector;", true)
  | 2 => ("ListMemory", "matching", "LListMemory$Matching;", true)
  | 3 => ("ListMemory", "counted", "[I", true)
  | 4 => ("ListMemory", "half", "LListMemory$Half;", false)
  | 5 => ("ListMemory", "otherHalf", "LListMemory$Half;", false)
  | _ => ("ListMemory", "collections", "I", false)
def tyX3 : Nat → FieldType := fun k => match k with
  | 0 => .array .long
  | 1 => .object "ListMemory$Collector"
  | 2 => .object "ListMemory$Matching"
  | 3 => .array .int
  | 4 => .object "ListMemory$Half"
  | 5 => .object "ListMemory$Half"
  | _ => .int
abbrev wsX30 : List Cond := u_ws RX3 TX3 7
theorem nmX3 : ∀ a, a < 7 → ∀ b, b < 7 → a ≠ b → (TX3 a).2.1 ≠ (TX3 b).2.1 := by decide +kernel
theorem tyX3_ok : ∀ k, k < 7 → parseFieldDescriptor (TX3 k).2.2.1 = some (tyX3 k) := by decide +kernel
abbrev cX3_init : ByteArray := prog_1_method_1_code
def yX3_init : MethodName := ⟨RX3, "<init>", "()V"⟩
abbrev cX3_number : ByteArray := prog_1_method_2_code
def yX3_number : MethodName := ⟨RX3, "number", "(IJ)V"⟩
abbrev cX3_collect : ByteArray := prog_1_method_18_code
def yX3_collect : MethodName := ⟨RX3, "collect", "()I"⟩
abbrev cX3_about : ByteArray := prog_1_method_19_code
def yX3_about : MethodName := ⟨RX3, "about", "(I)I"⟩
abbrev cX3_content : ByteArray := prog_1_method_21_code
def yX3_content : MethodName := ⟨RX3, "content", "(IJ)J"⟩
abbrev cX3_kindOf : ByteArray := prog_1_method_22_code
def yX3_kindOf : MethodName := ⟨RX3, "kindOf", "(J)I"⟩
abbrev cX3_placeOf : ByteArray := prog_1_method_24_code
def yX3_placeOf : MethodName := ⟨RX3, "placeOf", "(J)I"⟩
abbrev cX3_checkRoot : ByteArray := prog_1_method_25_code
def yX3_checkRoot : MethodName := ⟨RX3, "checkRoot", "(I)V"⟩
abbrev cX3_makeCollection : ByteArray := prog_1_method_29_code
def yX3_makeCollection : MethodName := ⟨RX3, "makeCollection", "()V"⟩
def RX4 : String := "ListMemoryModel"
def TX4 : u_T := fun k => match k with
  | _ => ("", "", "", false)
def tyX4 : Nat → FieldType := fun k => match k with
  | _ => .int
abbrev wsX40 : List Cond := u_ws RX4 TX4 0
theorem nmX4 : ∀ a, a < 0 → ∀ b, b < 0 → a ≠ b → (TX4 a).2.1 ≠ (TX4 b).2.1 := by decide +kernel
theorem tyX4_ok : ∀ k, k < 0 → parseFieldDescriptor (TX4 k).2.2.1 = some (tyX4 k) := by decide +kernel
def RJ0 : String := "java/lang/String"
def TJ0 : u_T := fun k => match k with
  | _ => ("", "", "", false)
def tyJ0 : Nat → FieldType := fun k => match k with
  | _ => .int
abbrev wsJ00 : List Cond := u_ws RJ0 TJ0 0
theorem nmJ0 : ∀ a, a < 0 → ∀ b, b < 0 → a ≠ b → (TJ0 a).2.1 ≠ (TJ0 b).2.1 := by decide +kernel
theorem tyJ0_ok : ∀ k, k < 0 → parseFieldDescriptor (TJ0 k).2.2.1 = some (tyJ0 k) := by decide +kernel
def RJ7 : String := "java/util/Arrays"
def TJ7 : u_T := fun k => match k with
  | _ => ("", "", "", false)
def tyJ7 : Nat → FieldType := fun k => match k with
  | _ => .int
abbrev wsJ70 : List Cond := u_ws RJ7 TJ7 0
theorem nmJ7 : ∀ a, a < 0 → ∀ b, b < 0 → a ≠ b → (TJ7 a).2.1 ≠ (TJ7 b).2.1 := by decide +kernel
theorem tyJ7_ok : ∀ k, k < 0 → parseFieldDescriptor (TJ7 k).2.2.1 = some (tyJ7 k) := by decide +kernel
abbrev cJ7_fill_53178 : ByteArray := prog_15_method_103_code
def yJ7_fill_53178 : MethodName := ⟨RJ7, "fill", "([II)V"⟩
def RL : String := "ListMemoryLaw"
abbrev cL_number : ByteArray := method_3_code
def yL_number : MethodName := ⟨RL, "number", "(LListMemory;IJ)I"⟩
abbrev cL_law : ByteArray := code
def yL_law : MethodName := ⟨RL, "law", "([I)Z"⟩
def wsX0_init : List Cond := .code yX0_init cX0_init 1 none :: ([.methodLink RX0 3 objectInit, .instanceMethod objectInit, .code objectInit ⟨#[0xb1]⟩ 1 none, .arrayClass .int, .fieldLink RX0 9 "ListMemory$Collector" "listed" "[I", .fieldLink RX0 15 "ListMemory$Collector" "isListed" "[I", .fieldLink RX0 18 "ListMemory$Collector" "isRest" "[I", .fieldLink RX0 21 "ListMemory$Collector" "newPlaces" "[I", .fieldLink RX0 24 "ListMemory$Collector" "many" "I"] ++ wsX00)
def wsJ7_fill_53178 : List Cond := .code yJ7_fill_53178 cJ7_fill_53178 4 none :: ([])
def wsX3_kindOf : List Cond := .code yX3_kindOf cX3_kindOf 2 (some .int) :: ([.constantLong RX3 156 (3)])
def wsX3_placeOf : List Cond := .code yX3_placeOf cX3_placeOf 4 (some .int) :: ([.constantLong RX3 158 (120)])
def wsX1_contentAt : List Cond := .code yX1_contentAt cX1_contentAt 2 (some .long) :: ([.fieldLink RX1 15 "ListMemory$Half" "contents" "[J"] ++ wsX10)
def wsX1_cellOf : List Cond := .code yX1_cellOf cX1_cellOf 6 (some .int) :: ([.static yX3_placeOf, .initialized RX3, .code yX3_placeOf cX3_placeOf 4 (some .int), .constantLong RX3 158 (120), .methodLink RX1 31 yX1_contentAt, .instanceMethod yX1_contentAt, .selects RX1 yX1_contentAt yX1_contentAt, .initialized RX1, .code yX1_contentAt cX1_contentAt 2 (some .long), .fieldLink RX1 15 "ListMemory$Half" "contents" "[J", .static yX3_kindOf, .code yX3_kindOf cX3_kindOf 2 (some .int), .constantLong RX3 156 (3)] ++ wsX10)
def wsX0_listPair : List Cond := .code yX0_listPair cX0_listPair 5 none :: ([.fieldLink RX0 15 "ListMemory$Collector" "isListed" "[I", .fieldLink RX0 24 "ListMemory$Collector" "many" "I", .fieldLink RX0 9 "ListMemory$Collector" "listed" "[I", .static yX3_kindOf, .initialized RX3, .code yX3_kindOf cX3_kindOf 2 (some .int), .constantLong RX3 156 (3), .methodLink RX0 51 yX1_cellOf, .instanceMethod yX1_cellOf, .selects RX1 yX1_cellOf yX1_cellOf, .initialized RX1, .code yX1_cellOf cX1_cellOf 6 (some .int), .static yX3_placeOf, .code yX3_placeOf cX3_placeOf 4 (some .int), .constantLong RX3 158 (120), .methodLink RX1 31 yX1_contentAt, .instanceMethod yX1_contentAt, .selects RX1 yX1_contentAt yX1_contentAt, .code yX1_contentAt cX1_contentAt 2 (some .long), .fieldLink RX1 15 "ListMemory$Half" "contents" "[J"] ++ wsX00 ++ wsX10)
def wsX1_codeAt : List Cond := .code yX1_codeAt cX1_codeAt 2 (some .int) :: ([.fieldLink RX1 9 "ListMemory$Half" "codes" "[I"] ++ wsX10)
def wsX3_content : List Cond := .code yX3_content cX3_content 3 (some .long) :: ([])
def wsX1_restOf : List Cond := .code yX1_restOf cX1_restOf 2 (some .long) :: ([.methodLink RX1 38 yX1_codeAt, .instanceMethod yX1_codeAt, .selects RX1 yX1_codeAt yX1_codeAt, .initialized RX1, .code yX1_codeAt cX1_codeAt 2 (some .int), .fieldLink RX1 9 "ListMemory$Half" "codes" "[I", .static yX3_content, .initialized RX3, .code yX3_content cX3_content 3 (some .long), .methodLink RX1 31 yX1_contentAt, .instanceMethod yX1_contentAt, .selects RX1 yX1_contentAt yX1_contentAt, .code yX1_contentAt cX1_contentAt 2 (some .long), .fieldLink RX1 15 "ListMemory$Half" "contents" "[J"] ++ wsX10)
def wsX0_listReached_r1 : List Cond := [Cond.fieldLink RX0 24 "ListMemory$Collector" "many" "I", Cond.fieldLink RX0 15 "ListMemory$Collector" "isListed" "[I", Cond.fieldLink RX0 18 "ListMemory$Collector" "isRest" "[I", Cond.fieldLink RX0 21 "ListMemory$Collector" "newPlaces" "[I", Cond.fieldLink RX0 9 "ListMemory$Collector" "listed" "[I", Cond.methodLink RX0 28 yJ7_fill_53178, Cond.static yJ7_fill_53178, Cond.initialized RJ7, Cond.code yJ7_fill_53178 cJ7_fill_53178 4 none, Cond.methodLink RX0 34 yX0_listPair, Cond.instanceMethod yX0_listPair, Cond.selects RX0 yX0_listPair yX0_listPair, Cond.initialized RX0, Cond.code yX0_listPair cX0_listPair 5 none, Cond.static yX3_kindOf, Cond.initialized RX3, Cond.code yX3_kindOf cX3_kindOf 2 (some .int), Cond.constantLong RX3 156 (3), Cond.methodLink RX0 51 yX1_cellOf, Cond.instanceMethod yX1_cellOf, Cond.selects RX1 yX1_cellOf yX1_cellOf, Cond.initialized RX1, Cond.code yX1_cellOf cX1_cellOf 6 (some .int), Cond.static yX3_placeOf]
def wsX0_listReached_r2 : List Cond := [Cond.code yX3_placeOf cX3_placeOf 4 (some .int), Cond.constantLong RX3 158 (120), Cond.methodLink RX1 31 yX1_contentAt, Cond.instanceMethod yX1_contentAt, Cond.selects RX1 yX1_contentAt yX1_contentAt, Cond.code yX1_contentAt cX1_contentAt 2 (some .long), Cond.fieldLink RX1 15 "ListMemory$Half" "contents" "[J", Cond.methodLink RX0 38 yX1_restOf, Cond.instanceMethod yX1_restOf, Cond.selects RX1 yX1_restOf yX1_restOf, Cond.code yX1_restOf cX1_restOf 2 (some .long), Cond.methodLink RX1 38 yX1_codeAt, Cond.instanceMethod yX1_codeAt, Cond.selects RX1 yX1_codeAt yX1_codeAt, Cond.code yX1_codeAt cX1_codeAt 2 (some .int), Cond.fieldLink RX1 9 "ListMemory$Half" "codes" "[I", Cond.static yX3_content, Cond.code yX3_content cX3_content 3 (some .long), Cond.methodLink RX0 44 yX1_contentAt]
def wsX0_listReached : List Cond := .code yX0_listReached cX0_listReached 7 none :: ((wsX0_listReached_r1 ++ wsX0_listReached_r2) ++ wsX00 ++ wsX10)
def wsX1_take : List Cond := .code yX1_take cX1_take 5 (some .int) :: ([.fieldLink RX1 19 "ListMemory$Half" "taken" "I", .fieldLink RX1 9 "ListMemory$Half" "codes" "[I", .fieldLink RX1 15 "ListMemory$Half" "contents" "[J"] ++ wsX10)
def wsX1_takeTwo : List Cond := .code yX1_takeTwo cX1_takeTwo 6 (some .int) :: ([.methodLink RX1 23 yX1_take, .instanceMethod yX1_take, .selects RX1 yX1_take yX1_take, .initialized RX1, .code yX1_take cX1_take 5 (some .int), .fieldLink RX1 19 "ListMemory$Half" "taken" "I", .fieldLink RX1 9 "ListMemory$Half" "codes" "[I", .fieldLink RX1 15 "ListMemory$Half" "contents" "[J"] ++ wsX10)
def wsX0_layCell_r1 : List Cond := [Cond.fieldLink RX0 21 "ListMemory$Collector" "newPlaces" "[I", Cond.methodLink RX0 44 yX1_contentAt, Cond.instanceMethod yX1_contentAt, Cond.selects RX1 yX1_contentAt yX1_contentAt, Cond.initialized RX1, Cond.code yX1_contentAt cX1_contentAt 2 (some .long), Cond.fieldLink RX1 15 "ListMemory$Half" "contents" "[J", Cond.methodLink RX0 38 yX1_restOf, Cond.instanceMethod yX1_restOf, Cond.selects RX1 yX1_restOf yX1_restOf, Cond.code yX1_restOf cX1_restOf 2 (some .long), Cond.methodLink RX1 38 yX1_codeAt, Cond.instanceMethod yX1_codeAt, Cond.selects RX1 yX1_codeAt yX1_codeAt, Cond.code yX1_codeAt cX1_codeAt 2 (some .int), Cond.fieldLink RX1 9 "ListMemory$Half" "codes" "[I", Cond.static yX3_content, Cond.initialized RX3, Cond.code yX3_content cX3_content 3 (some .long), Cond.methodLink RX1 31 yX1_contentAt, Cond.static yX3_kindOf, Cond.code yX3_kindOf cX3_kindOf 2 (some .int), Cond.constantLong RX3 156 (3), Cond.methodLink RX0 61 yX1_take]
def wsX0_layCell_r2 : List Cond := [Cond.instanceMethod yX1_take, Cond.selects RX1 yX1_take yX1_take, Cond.code yX1_take cX1_take 5 (some .int), Cond.fieldLink RX1 19 "ListMemory$Half" "taken" "I", Cond.methodLink RX0 51 yX1_cellOf, Cond.instanceMethod yX1_cellOf, Cond.selects RX1 yX1_cellOf yX1_cellOf, Cond.code yX1_cellOf cX1_cellOf 6 (some .int), Cond.static yX3_placeOf, Cond.code yX3_placeOf cX3_placeOf 4 (some .int), Cond.constantLong RX3 158 (120), Cond.methodLink RX0 65 yX1_takeTwo, Cond.instanceMethod yX1_takeTwo, Cond.selects RX1 yX1_takeTwo yX1_takeTwo, Cond.code yX1_takeTwo cX1_takeTwo 6 (some .int), Cond.methodLink RX1 23 yX1_take]
def wsX0_layCell : List Cond := .code yX0_layCell cX0_layCell 9 (some .int) :: ((wsX0_layCell_r1 ++ wsX0_layCell_r2) ++ wsX00 ++ wsX10)
def wsX0_layListed_r1 : List Cond := [Cond.fieldLink RX0 24 "ListMemory$Collector" "many" "I", Cond.fieldLink RX0 9 "ListMemory$Collector" "listed" "[I", Cond.fieldLink RX0 21 "ListMemory$Collector" "newPlaces" "[I", Cond.fieldLink RX0 18 "ListMemory$Collector" "isRest" "[I", Cond.methodLink RX0 54 yX0_layCell, Cond.instanceMethod yX0_layCell, Cond.selects RX0 yX0_layCell yX0_layCell, Cond.initialized RX0, Cond.code yX0_layCell cX0_layCell 9 (some .int), Cond.methodLink RX0 44 yX1_contentAt, Cond.instanceMethod yX1_contentAt, Cond.selects RX1 yX1_contentAt yX1_contentAt, Cond.initialized RX1, Cond.code yX1_contentAt cX1_contentAt 2 (some .long), Cond.fieldLink RX1 15 "ListMemory$Half" "contents" "[J", Cond.methodLink RX0 38 yX1_restOf, Cond.instanceMethod yX1_restOf, Cond.selects RX1 yX1_restOf yX1_restOf, Cond.code yX1_restOf cX1_restOf 2 (some .long), Cond.methodLink RX1 38 yX1_codeAt, Cond.instanceMethod yX1_codeAt, Cond.selects RX1 yX1_codeAt yX1_codeAt, Cond.code yX1_codeAt cX1_codeAt 2 (some .int), Cond.fieldLink RX1 9 "ListMemory$Half" "codes" "[I"]
def wsX0_layListed_r2 : List Cond := [Cond.static yX3_content, Cond.initialized RX3, Cond.code yX3_content cX3_content 3 (some .long), Cond.methodLink RX1 31 yX1_contentAt, Cond.static yX3_kindOf, Cond.code yX3_kindOf cX3_kindOf 2 (some .int), Cond.constantLong RX3 156 (3), Cond.methodLink RX0 61 yX1_take, Cond.instanceMethod yX1_take, Cond.selects RX1 yX1_take yX1_take, Cond.code yX1_take cX1_take 5 (some .int), Cond.fieldLink RX1 19 "ListMemory$Half" "taken" "I", Cond.methodLink RX0 51 yX1_cellOf, Cond.instanceMethod yX1_cellOf, Cond.selects RX1 yX1_cellOf yX1_cellOf, Cond.code yX1_cellOf cX1_cellOf 6 (some .int), Cond.static yX3_placeOf, Cond.code yX3_placeOf cX3_placeOf 4 (some .int), Cond.constantLong RX3 158 (120), Cond.methodLink RX0 65 yX1_takeTwo, Cond.instanceMethod yX1_takeTwo, Cond.selects RX1 yX1_takeTwo yX1_takeTwo, Cond.code yX1_takeTwo cX1_takeTwo 6 (some .int), Cond.methodLink RX1 23 yX1_take]
def wsX0_layListed : List Cond := .code yX0_layListed cX0_layListed 7 none :: ((wsX0_layListed_r1 ++ wsX0_layListed_r2) ++ wsX00 ++ wsX10)
def wsX0_inNewHalf : List Cond := .code yX0_inNewHalf cX0_inNewHalf 4 (some .long) :: ([.fieldLink RX0 21 "ListMemory$Collector" "newPlaces" "[I", .static yX3_kindOf, .initialized RX3, .code yX3_kindOf cX3_kindOf 2 (some .int), .constantLong RX3 156 (3), .methodLink RX0 51 yX1_cellOf, .instanceMethod yX1_cellOf, .selects RX1 yX1_cellOf yX1_cellOf, .initialized RX1, .code yX1_cellOf cX1_cellOf 6 (some .int), .static yX3_placeOf, .code yX3_placeOf cX3_placeOf 4 (some .int), .constantLong RX3 158 (120), .methodLink RX1 31 yX1_contentAt, .instanceMethod yX1_contentAt, .selects RX1 yX1_contentAt yX1_contentAt, .code yX1_contentAt cX1_contentAt 2 (some .long), .fieldLink RX1 15 "ListMemory$Half" "contents" "[J", .static yX3_content, .code yX3_content cX3_content 3 (some .long)] ++ wsX00 ++ wsX10)
def wsX1_setContent : List Cond := .code yX1_setContent cX1_setContent 4 none :: ([.fieldLink RX1 15 "ListMemory$Half" "contents" "[J"] ++ wsX10)
def wsX0_tellNewPlaces_r1 : List Cond := [Cond.methodLink RX0 44 yX1_contentAt, Cond.instanceMethod yX1_contentAt, Cond.selects RX1 yX1_contentAt yX1_contentAt, Cond.initialized RX1, Cond.code yX1_contentAt cX1_contentAt 2 (some .long), Cond.fieldLink RX1 15 "ListMemory$Half" "contents" "[J", Cond.methodLink RX0 69 yX0_inNewHalf, Cond.instanceMethod yX0_inNewHalf, Cond.selects RX0 yX0_inNewHalf yX0_inNewHalf, Cond.initialized RX0, Cond.code yX0_inNewHalf cX0_inNewHalf 4 (some .long), Cond.fieldLink RX0 21 "ListMemory$Collector" "newPlaces" "[I", Cond.static yX3_kindOf, Cond.initialized RX3, Cond.code yX3_kindOf cX3_kindOf 2 (some .int), Cond.constantLong RX3 156 (3), Cond.methodLink RX0 51 yX1_cellOf, Cond.instanceMethod yX1_cellOf, Cond.selects RX1 yX1_cellOf yX1_cellOf, Cond.code yX1_cellOf cX1_cellOf 6 (some .int), Cond.static yX3_placeOf, Cond.code yX3_placeOf cX3_placeOf 4 (some .int), Cond.constantLong RX3 158 (120), Cond.methodLink RX1 31 yX1_contentAt]
def wsX0_tellNewPlaces_r2 : List Cond := [Cond.static yX3_content, Cond.code yX3_content cX3_content 3 (some .long), Cond.methodLink RX0 73 yX1_setContent, Cond.instanceMethod yX1_setContent, Cond.selects RX1 yX1_setContent yX1_setContent, Cond.code yX1_setContent cX1_setContent 4 none]
def wsX0_tellNewPlaces : List Cond := .code yX0_tellNewPlaces cX0_tellNewPlaces 5 none :: ((wsX0_tellNewPlaces_r1 ++ wsX0_tellNewPlaces_r2) ++ wsX10 ++ wsX00)
def wsX1_init : List Cond := .code yX1_init cX1_init 1 none :: ([.methodLink RX1 3 objectInit, .instanceMethod objectInit, .code objectInit ⟨#[0xb1]⟩ 1 none, .arrayClass .int, .fieldLink RX1 9 "ListMemory$Half" "codes" "[I", .arrayClass .long, .fieldLink RX1 15 "ListMemory$Half" "contents" "[J", .fieldLink RX1 19 "ListMemory$Half" "taken" "I"] ++ wsX10)
def wsX1_clear : List Cond := .code yX1_clear cX1_clear 1 none :: ([.fieldLink RX1 19 "ListMemory$Half" "taken" "I"] ++ wsX10)
def wsX1_countMoved : List Cond := .code yX1_countMoved cX1_countMoved 3 (some .int) :: ([.fieldLink RX1 19 "ListMemory$Half" "taken" "I", .methodLink RX1 31 yX1_contentAt, .instanceMethod yX1_contentAt, .selects RX1 yX1_contentAt yX1_contentAt, .initialized RX1, .code yX1_contentAt cX1_contentAt 2 (some .long), .fieldLink RX1 15 "ListMemory$Half" "contents" "[J", .static yX3_kindOf, .initialized RX3, .code yX3_kindOf cX3_kindOf 2 (some .int), .constantLong RX3 156 (3)] ++ wsX10)
def wsX2_init : List Cond := .code yX2_init cX2_init 1 none :: ([.methodLink RX2 3 objectInit, .instanceMethod objectInit, .code objectInit ⟨#[0xb1]⟩ 1 none, .arrayClass .int, .fieldLink RX2 9 "ListMemory$Matching" "forth" "[I", .fieldLink RX2 15 "ListMemory$Matching" "back" "[I", .fieldLink RX2 18 "ListMemory$Matching" "waiting" "[I", .fieldLink RX2 21 "ListMemory$Matching" "many" "I"] ++ wsX20)
def wsX3_init_r1 : List Cond := [Cond.methodLink RX3 3 objectInit, Cond.instanceMethod objectInit, Cond.code objectInit ⟨#[0xb1]⟩ 1 none, Cond.arrayClass .long, Cond.fieldLink RX3 9 "ListMemory" "roots" "[J", Cond.classLink RX3 13 RX0, Cond.instantiable RX0 5, Cond.initialized RX0, Cond.fieldLink RX3 16 "ListMemory" "collector" "LListMemory$Collector;", Cond.classLink RX3 20 RX2, Cond.instantiable RX2 4, Cond.initialized RX2, Cond.fieldLink RX3 23 "ListMemory" "matching" "LListMemory$Matching;", Cond.arrayClass .int, Cond.fieldLink RX3 27 "ListMemory" "counted" "[I", Cond.classLink RX3 31 RX1, Cond.instantiable RX1 3, Cond.initialized RX1, Cond.fieldLink RX3 34 "ListMemory" "half" "LListMemory$Half;", Cond.fieldLink RX3 38 "ListMemory" "otherHalf" "LListMemory$Half;", Cond.fieldLink RX3 41 "ListMemory" "collections" "I", Cond.instanceMethod yX0_init, Cond.code yX0_init cX0_init 1 none, Cond.methodLink RX0 3 objectInit]
def wsX3_init_r2 : List Cond := [Cond.fieldLink RX0 9 "ListMemory$Collector" "listed" "[I", Cond.fieldLink RX0 15 "ListMemory$Collector" "isListed" "[I", Cond.fieldLink RX0 18 "ListMemory$Collector" "isRest" "[I", Cond.fieldLink RX0 21 "ListMemory$Collector" "newPlaces" "[I", Cond.fieldLink RX0 24 "ListMemory$Collector" "many" "I", Cond.instanceMethod yX2_init, Cond.code yX2_init cX2_init 1 none, Cond.methodLink RX2 3 objectInit, Cond.fieldLink RX2 9 "ListMemory$Matching" "forth" "[I", Cond.fieldLink RX2 15 "ListMemory$Matching" "back" "[I", Cond.fieldLink RX2 18 "ListMemory$Matching" "waiting" "[I", Cond.fieldLink RX2 21 "ListMemory$Matching" "many" "I", Cond.instanceMethod yX1_init, Cond.code yX1_init cX1_init 1 none, Cond.methodLink RX1 3 objectInit, Cond.fieldLink RX1 9 "ListMemory$Half" "codes" "[I", Cond.fieldLink RX1 15 "ListMemory$Half" "contents" "[J", Cond.fieldLink RX1 19 "ListMemory$Half" "taken" "I"]
def wsX3_init : List Cond := .code yX3_init cX3_init 1 none :: ((wsX3_init_r1 ++ wsX3_init_r2) ++ wsX30 ++ wsX00 ++ wsX20 ++ wsX10)
def wsX3_checkRoot : List Cond := .code yX3_checkRoot cX3_checkRoot 1 none :: ([.classLink RX3 160 "java/util/NoSuchElementException", .initialized "java/util/NoSuchElementException"] ++ (vx_atS RX3 164 "java/util/NoSuchElementException" ["java/lang/RuntimeException", "java/lang/Exception"]).filter goodWord)
def wsX3_number : List Cond := .code yX3_number cX3_number 4 none :: ([.classLink RX3 53 "java/lang/IllegalArgumentException", .initialized "java/lang/IllegalArgumentException", .fieldLink RX3 9 "ListMemory" "roots" "[J", .methodLink RX3 45 yX3_checkRoot, .static yX3_checkRoot, .initialized RX3, .code yX3_checkRoot cX3_checkRoot 1 none, .classLink RX3 160 "java/util/NoSuchElementException", .initialized "java/util/NoSuchElementException"] ++ wsX30 ++ (vx_atS RX3 57 "java/lang/IllegalArgumentException" ["java/lang/RuntimeException", "java/lang/Exception"]).filter goodWord ++ (vx_atS RX3 164 "java/util/NoSuchElementException" ["java/lang/RuntimeException", "java/lang/Exception"]).filter goodWord)
def wsX3_makeCollection_r1 : List Cond := [Cond.fieldLink RX3 38 "ListMemory" "otherHalf" "LListMemory$Half;", Cond.fieldLink RX3 16 "ListMemory" "collector" "LListMemory$Collector;", Cond.fieldLink RX3 34 "ListMemory" "half" "LListMemory$Half;", Cond.fieldLink RX3 9 "ListMemory" "roots" "[J", Cond.fieldLink RX3 41 "ListMemory" "collections" "I", Cond.methodLink RX3 175 yX1_clear, Cond.instanceMethod yX1_clear, Cond.selects RX1 yX1_clear yX1_clear, Cond.initialized RX1, Cond.code yX1_clear cX1_clear 1 none, Cond.fieldLink RX1 19 "ListMemory$Half" "taken" "I", Cond.methodLink RX3 178 yX0_listReached, Cond.instanceMethod yX0_listReached, Cond.selects RX0 yX0_listReached yX0_listReached, Cond.initialized RX0, Cond.code yX0_listReached cX0_listReached 7 none, Cond.fieldLink RX0 24 "ListMemory$Collector" "many" "I", Cond.fieldLink RX0 15 "ListMemory$Collector" "isListed" "[I", Cond.fieldLink RX0 18 "ListMemory$Collector" "isRest" "[I", Cond.fieldLink RX0 21 "ListMemory$Collector" "newPlaces" "[I", Cond.fieldLink RX0 9 "ListMemory$Collector" "listed" "[I", Cond.methodLink RX0 28 yJ7_fill_53178, Cond.static yJ7_fill_53178, Cond.initialized RJ7]
def wsX3_makeCollection_r2 : List Cond := [Cond.code yJ7_fill_53178 cJ7_fill_53178 4 none, Cond.methodLink RX0 34 yX0_listPair, Cond.instanceMethod yX0_listPair, Cond.selects RX0 yX0_listPair yX0_listPair, Cond.code yX0_listPair cX0_listPair 5 none, Cond.static yX3_kindOf, Cond.initialized RX3, Cond.code yX3_kindOf cX3_kindOf 2 (some .int), Cond.constantLong RX3 156 (3), Cond.methodLink RX0 51 yX1_cellOf, Cond.instanceMethod yX1_cellOf, Cond.selects RX1 yX1_cellOf yX1_cellOf, Cond.code yX1_cellOf cX1_cellOf 6 (some .int), Cond.static yX3_placeOf, Cond.code yX3_placeOf cX3_placeOf 4 (some .int), Cond.constantLong RX3 158 (120), Cond.methodLink RX1 31 yX1_contentAt, Cond.instanceMethod yX1_contentAt, Cond.selects RX1 yX1_contentAt yX1_contentAt, Cond.code yX1_contentAt cX1_contentAt 2 (some .long), Cond.fieldLink RX1 15 "ListMemory$Half" "contents" "[J", Cond.methodLink RX0 38 yX1_restOf, Cond.instanceMethod yX1_restOf, Cond.selects RX1 yX1_restOf yX1_restOf]
def wsX3_makeCollection_r3 : List Cond := [Cond.code yX1_restOf cX1_restOf 2 (some .long), Cond.methodLink RX1 38 yX1_codeAt, Cond.instanceMethod yX1_codeAt, Cond.selects RX1 yX1_codeAt yX1_codeAt, Cond.code yX1_codeAt cX1_codeAt 2 (some .int), Cond.fieldLink RX1 9 "ListMemory$Half" "codes" "[I", Cond.static yX3_content, Cond.code yX3_content cX3_content 3 (some .long), Cond.methodLink RX0 44 yX1_contentAt, Cond.methodLink RX3 182 yX0_layListed, Cond.instanceMethod yX0_layListed, Cond.selects RX0 yX0_layListed yX0_layListed, Cond.code yX0_layListed cX0_layListed 7 none, Cond.methodLink RX0 54 yX0_layCell, Cond.instanceMethod yX0_layCell, Cond.selects RX0 yX0_layCell yX0_layCell, Cond.code yX0_layCell cX0_layCell 9 (some .int), Cond.methodLink RX0 61 yX1_take, Cond.instanceMethod yX1_take, Cond.selects RX1 yX1_take yX1_take, Cond.code yX1_take cX1_take 5 (some .int), Cond.methodLink RX0 65 yX1_takeTwo, Cond.instanceMethod yX1_takeTwo, Cond.selects RX1 yX1_takeTwo yX1_takeTwo]
def wsX3_makeCollection_r4 : List Cond := [Cond.code yX1_takeTwo cX1_takeTwo 6 (some .int), Cond.methodLink RX1 23 yX1_take, Cond.methodLink RX3 186 yX0_tellNewPlaces, Cond.instanceMethod yX0_tellNewPlaces, Cond.selects RX0 yX0_tellNewPlaces yX0_tellNewPlaces, Cond.code yX0_tellNewPlaces cX0_tellNewPlaces 5 none, Cond.methodLink RX0 69 yX0_inNewHalf, Cond.instanceMethod yX0_inNewHalf, Cond.selects RX0 yX0_inNewHalf yX0_inNewHalf, Cond.code yX0_inNewHalf cX0_inNewHalf 4 (some .long), Cond.methodLink RX0 73 yX1_setContent, Cond.instanceMethod yX1_setContent, Cond.selects RX1 yX1_setContent yX1_setContent, Cond.code yX1_setContent cX1_setContent 4 none]
def wsX3_makeCollection : List Cond := .code yX3_makeCollection cX3_makeCollection 2 none :: ((wsX3_makeCollection_r1 ++ (wsX3_makeCollection_r2 ++ (wsX3_makeCollection_r3 ++ wsX3_makeCollection_r4))) ++ wsX30 ++ wsX10 ++ wsX00)
def wsX3_collect_r1 : List Cond := [Cond.fieldLink RX3 34 "ListMemory" "half" "LListMemory$Half;", Cond.methodLink RX3 138 yX3_makeCollection, Cond.instanceMethod yX3_makeCollection, Cond.selects RX3 yX3_makeCollection yX3_makeCollection, Cond.initialized RX3, Cond.code yX3_makeCollection cX3_makeCollection 2 none, Cond.fieldLink RX3 38 "ListMemory" "otherHalf" "LListMemory$Half;", Cond.fieldLink RX3 16 "ListMemory" "collector" "LListMemory$Collector;", Cond.fieldLink RX3 9 "ListMemory" "roots" "[J", Cond.fieldLink RX3 41 "ListMemory" "collections" "I", Cond.methodLink RX3 175 yX1_clear, Cond.instanceMethod yX1_clear, Cond.selects RX1 yX1_clear yX1_clear, Cond.initialized RX1, Cond.code yX1_clear cX1_clear 1 none, Cond.fieldLink RX1 19 "ListMemory$Half" "taken" "I", Cond.methodLink RX3 178 yX0_listReached, Cond.instanceMethod yX0_listReached, Cond.selects RX0 yX0_listReached yX0_listReached, Cond.initialized RX0, Cond.code yX0_listReached cX0_listReached 7 none, Cond.fieldLink RX0 24 "ListMemory$Collector" "many" "I", Cond.fieldLink RX0 15 "ListMemory$Collector" "isListed" "[I", Cond.fieldLink RX0 18 "ListMemory$Collector" "isRest" "[I"]
def wsX3_collect_r2 : List Cond := [Cond.fieldLink RX0 21 "ListMemory$Collector" "newPlaces" "[I", Cond.fieldLink RX0 9 "ListMemory$Collector" "listed" "[I", Cond.methodLink RX0 28 yJ7_fill_53178, Cond.static yJ7_fill_53178, Cond.initialized RJ7, Cond.code yJ7_fill_53178 cJ7_fill_53178 4 none, Cond.methodLink RX0 34 yX0_listPair, Cond.instanceMethod yX0_listPair, Cond.selects RX0 yX0_listPair yX0_listPair, Cond.code yX0_listPair cX0_listPair 5 none, Cond.static yX3_kindOf, Cond.code yX3_kindOf cX3_kindOf 2 (some .int), Cond.constantLong RX3 156 (3), Cond.methodLink RX0 51 yX1_cellOf, Cond.instanceMethod yX1_cellOf, Cond.selects RX1 yX1_cellOf yX1_cellOf, Cond.code yX1_cellOf cX1_cellOf 6 (some .int), Cond.static yX3_placeOf, Cond.code yX3_placeOf cX3_placeOf 4 (some .int), Cond.constantLong RX3 158 (120), Cond.methodLink RX1 31 yX1_contentAt, Cond.instanceMethod yX1_contentAt, Cond.selects RX1 yX1_contentAt yX1_contentAt, Cond.code yX1_contentAt cX1_contentAt 2 (some .long)]
def wsX3_collect_r3 : List Cond := [Cond.fieldLink RX1 15 "ListMemory$Half" "contents" "[J", Cond.methodLink RX0 38 yX1_restOf, Cond.instanceMethod yX1_restOf, Cond.selects RX1 yX1_restOf yX1_restOf, Cond.code yX1_restOf cX1_restOf 2 (some .long), Cond.methodLink RX1 38 yX1_codeAt, Cond.instanceMethod yX1_codeAt, Cond.selects RX1 yX1_codeAt yX1_codeAt, Cond.code yX1_codeAt cX1_codeAt 2 (some .int), Cond.fieldLink RX1 9 "ListMemory$Half" "codes" "[I", Cond.static yX3_content, Cond.code yX3_content cX3_content 3 (some .long), Cond.methodLink RX0 44 yX1_contentAt, Cond.methodLink RX3 182 yX0_layListed, Cond.instanceMethod yX0_layListed, Cond.selects RX0 yX0_layListed yX0_layListed, Cond.code yX0_layListed cX0_layListed 7 none, Cond.methodLink RX0 54 yX0_layCell, Cond.instanceMethod yX0_layCell, Cond.selects RX0 yX0_layCell yX0_layCell, Cond.code yX0_layCell cX0_layCell 9 (some .int), Cond.methodLink RX0 61 yX1_take, Cond.instanceMethod yX1_take, Cond.selects RX1 yX1_take yX1_take]
def wsX3_collect_r4 : List Cond := [Cond.code yX1_take cX1_take 5 (some .int), Cond.methodLink RX0 65 yX1_takeTwo, Cond.instanceMethod yX1_takeTwo, Cond.selects RX1 yX1_takeTwo yX1_takeTwo, Cond.code yX1_takeTwo cX1_takeTwo 6 (some .int), Cond.methodLink RX1 23 yX1_take, Cond.methodLink RX3 186 yX0_tellNewPlaces, Cond.instanceMethod yX0_tellNewPlaces, Cond.selects RX0 yX0_tellNewPlaces yX0_tellNewPlaces, Cond.code yX0_tellNewPlaces cX0_tellNewPlaces 5 none, Cond.methodLink RX0 69 yX0_inNewHalf, Cond.instanceMethod yX0_inNewHalf, Cond.selects RX0 yX0_inNewHalf yX0_inNewHalf, Cond.code yX0_inNewHalf cX0_inNewHalf 4 (some .long), Cond.methodLink RX0 73 yX1_setContent, Cond.instanceMethod yX1_setContent, Cond.selects RX1 yX1_setContent yX1_setContent, Cond.code yX1_setContent cX1_setContent 4 none]
def wsX3_collect : List Cond := .code yX3_collect cX3_collect 1 (some .int) :: ((wsX3_collect_r1 ++ (wsX3_collect_r2 ++ (wsX3_collect_r3 ++ wsX3_collect_r4))) ++ wsX30 ++ wsX10 ++ wsX00)
def wsX3_about : List Cond := .code yX3_about cX3_about 2 (some .int) :: ([.fieldLink RX3 34 "ListMemory" "half" "LListMemory$Half;", .fieldLink RX3 41 "ListMemory" "collections" "I", .methodLink RX3 141 yX1_countMoved, .instanceMethod yX1_countMoved, .selects RX1 yX1_countMoved yX1_countMoved, .initialized RX1, .code yX1_countMoved cX1_countMoved 3 (some .int), .fieldLink RX1 19 "ListMemory$Half" "taken" "I", .methodLink RX1 31 yX1_contentAt, .instanceMethod yX1_contentAt, .selects RX1 yX1_contentAt yX1_contentAt, .code yX1_contentAt cX1_contentAt 2 (some .long), .fieldLink RX1 15 "ListMemory$Half" "contents" "[J", .static yX3_kindOf, .initialized RX3, .code yX3_kindOf cX3_kindOf 2 (some .int), .constantLong RX3 156 (3)] ++ wsX30 ++ wsX10)
def wsL_number : List Cond := .codeWith yL_number cL_number 5 (some .int) [(0, 6, 9, 13), (0, 6, 13, 15)] :: ([.classLink RL 13 "java/util/NoSuchElementException", .classLink RL 15 "java/lang/IllegalArgumentException", .methodLink RL 7 yX3_number, .instanceMethod yX3_number, .selects RX3 yX3_number yX3_number, .initialized RX3, .code yX3_number cX3_number 4 none, .classLink RX3 53 "java/lang/IllegalArgumentException", .initialized "java/lang/IllegalArgumentException", .fieldLink RX3 9 "ListMemory" "roots" "[J", .methodLink RX3 45 yX3_checkRoot, .static yX3_checkRoot, .code yX3_checkRoot cX3_checkRoot 1 none, .classLink RX3 160 "java/util/NoSuchElementException", .initialized "java/util/NoSuchElementException"] ++ wsX30 ++ (vx_atS RX3 57 "java/lang/IllegalArgumentException" ["java/lang/RuntimeException", "java/lang/Exception"]).filter goodWord ++ (vx_atS RX3 164 "java/util/NoSuchElementException" ["java/lang/RuntimeException", "java/lang/Exception"]).filter goodWord)
def wsL_law0_r1 : List Cond := [Cond.classLink RL 8 RX3, Cond.instantiable RX3 7, Cond.initialized RX3, Cond.arrayClass .long, Cond.methodLink RL 78 yX3_init, Cond.instanceMethod yX3_init, Cond.code yX3_init cX3_init 1 none, Cond.methodLink RX3 3 objectInit, Cond.instanceMethod objectInit, Cond.code objectInit ⟨#[0xb1]⟩ 1 none, Cond.fieldLink RX3 9 "ListMemory" "roots" "[J", Cond.classLink RX3 13 RX0, Cond.instantiable RX0 5, Cond.initialized RX0, Cond.fieldLink RX3 16 "ListMemory" "collector" "LListMemory$Collector;", Cond.classLink RX3 20 RX2, Cond.instantiable RX2 4, Cond.initialized RX2, Cond.fieldLink RX3 23 "ListMemory" "matching" "LListMemory$Matching;", Cond.arrayClass .int, Cond.fieldLink RX3 27 "ListMemory" "counted" "[I", Cond.classLink RX3 31 RX1, Cond.instantiable RX1 3, Cond.initialized RX1]
def wsL_law0_r2 : List Cond := [Cond.fieldLink RX3 34 "ListMemory" "half" "LListMemory$Half;", Cond.fieldLink RX3 38 "ListMemory" "otherHalf" "LListMemory$Half;", Cond.fieldLink RX3 41 "ListMemory" "collections" "I", Cond.instanceMethod yX0_init, Cond.code yX0_init cX0_init 1 none, Cond.methodLink RX0 3 objectInit, Cond.fieldLink RX0 9 "ListMemory$Collector" "listed" "[I", Cond.fieldLink RX0 15 "ListMemory$Collector" "isListed" "[I", Cond.fieldLink RX0 18 "ListMemory$Collector" "isRest" "[I", Cond.fieldLink RX0 21 "ListMemory$Collector" "newPlaces" "[I", Cond.fieldLink RX0 24 "ListMemory$Collector" "many" "I", Cond.instanceMethod yX2_init, Cond.code yX2_init cX2_init 1 none, Cond.methodLink RX2 3 objectInit, Cond.fieldLink RX2 9 "ListMemory$Matching" "forth" "[I", Cond.fieldLink RX2 15 "ListMemory$Matching" "back" "[I", Cond.fieldLink RX2 18 "ListMemory$Matching" "waiting" "[I", Cond.fieldLink RX2 21 "ListMemory$Matching" "many" "I", Cond.instanceMethod yX1_init, Cond.code yX1_init cX1_init 1 none, Cond.methodLink RX1 3 objectInit, Cond.fieldLink RX1 9 "ListMemory$Half" "codes" "[I", Cond.fieldLink RX1 15 "ListMemory$Half" "contents" "[J", Cond.fieldLink RX1 19 "ListMemory$Half" "taken" "I"]
def wsL_law0_r3 : List Cond := [Cond.methodLink RL 84 yL_number, Cond.static yL_number, Cond.initialized RL, Cond.codeWith yL_number cL_number 5 (some .int) [(0, 6, 9, 13), (0, 6, 13, 15)], Cond.classLink RL 13 "java/util/NoSuchElementException", Cond.classLink RL 15 "java/lang/IllegalArgumentException", Cond.methodLink RL 7 yX3_number, Cond.instanceMethod yX3_number, Cond.selects RX3 yX3_number yX3_number, Cond.code yX3_number cX3_number 4 none, Cond.classLink RX3 53 "java/lang/IllegalArgumentException", Cond.initialized "java/lang/IllegalArgumentException", Cond.methodLink RX3 45 yX3_checkRoot, Cond.static yX3_checkRoot, Cond.code yX3_checkRoot cX3_checkRoot 1 none, Cond.classLink RX3 160 "java/util/NoSuchElementException", Cond.initialized "java/util/NoSuchElementException", Cond.methodLink RL 144 yX3_collect, Cond.instanceMethod yX3_collect, Cond.selects RX3 yX3_collect yX3_collect, Cond.code yX3_collect cX3_collect 1 (some .int), Cond.methodLink RX3 138 yX3_makeCollection, Cond.instanceMethod yX3_makeCollection, Cond.selects RX3 yX3_makeCollection yX3_makeCollection]
def wsL_law0_r4 : List Cond := [Cond.code yX3_makeCollection cX3_makeCollection 2 none, Cond.methodLink RX3 175 yX1_clear, Cond.instanceMethod yX1_clear, Cond.selects RX1 yX1_clear yX1_clear, Cond.code yX1_clear cX1_clear 1 none, Cond.methodLink RX3 178 yX0_listReached, Cond.instanceMethod yX0_listReached, Cond.selects RX0 yX0_listReached yX0_listReached, Cond.code yX0_listReached cX0_listReached 7 none, Cond.methodLink RX0 28 yJ7_fill_53178, Cond.static yJ7_fill_53178, Cond.initialized RJ7, Cond.code yJ7_fill_53178 cJ7_fill_53178 4 none, Cond.methodLink RX0 34 yX0_listPair, Cond.instanceMethod yX0_listPair, Cond.selects RX0 yX0_listPair yX0_listPair, Cond.code yX0_listPair cX0_listPair 5 none, Cond.static yX3_kindOf, Cond.code yX3_kindOf cX3_kindOf 2 (some .int), Cond.constantLong RX3 156 (3), Cond.methodLink RX0 51 yX1_cellOf, Cond.instanceMethod yX1_cellOf, Cond.selects RX1 yX1_cellOf yX1_cellOf, Cond.code yX1_cellOf cX1_cellOf 6 (some .int)]
def wsL_law0_r5 : List Cond := [Cond.static yX3_placeOf, Cond.code yX3_placeOf cX3_placeOf 4 (some .int), Cond.constantLong RX3 158 (120), Cond.methodLink RX1 31 yX1_contentAt, Cond.instanceMethod yX1_contentAt, Cond.selects RX1 yX1_contentAt yX1_contentAt, Cond.code yX1_contentAt cX1_contentAt 2 (some .long), Cond.methodLink RX0 38 yX1_restOf, Cond.instanceMethod yX1_restOf, Cond.selects RX1 yX1_restOf yX1_restOf, Cond.code yX1_restOf cX1_restOf 2 (some .long), Cond.methodLink RX1 38 yX1_codeAt, Cond.instanceMethod yX1_codeAt, Cond.selects RX1 yX1_codeAt yX1_codeAt, Cond.code yX1_codeAt cX1_codeAt 2 (some .int), Cond.static yX3_content, Cond.code yX3_content cX3_content 3 (some .long), Cond.methodLink RX0 44 yX1_contentAt, Cond.methodLink RX3 182 yX0_layListed, Cond.instanceMethod yX0_layListed, Cond.selects RX0 yX0_layListed yX0_layListed, Cond.code yX0_layListed cX0_layListed 7 none, Cond.methodLink RX0 54 yX0_layCell, Cond.instanceMethod yX0_layCell]
def wsL_law0_r6 : List Cond := [Cond.selects RX0 yX0_layCell yX0_layCell, Cond.code yX0_layCell cX0_layCell 9 (some .int), Cond.methodLink RX0 61 yX1_take, Cond.instanceMethod yX1_take, Cond.selects RX1 yX1_take yX1_take, Cond.code yX1_take cX1_take 5 (some .int), Cond.methodLink RX0 65 yX1_takeTwo, Cond.instanceMethod yX1_takeTwo, Cond.selects RX1 yX1_takeTwo yX1_takeTwo, Cond.code yX1_takeTwo cX1_takeTwo 6 (some .int), Cond.methodLink RX1 23 yX1_take, Cond.methodLink RX3 186 yX0_tellNewPlaces, Cond.instanceMethod yX0_tellNewPlaces, Cond.selects RX0 yX0_tellNewPlaces yX0_tellNewPlaces, Cond.code yX0_tellNewPlaces cX0_tellNewPlaces 5 none, Cond.methodLink RX0 69 yX0_inNewHalf, Cond.instanceMethod yX0_inNewHalf, Cond.selects RX0 yX0_inNewHalf yX0_inNewHalf, Cond.code yX0_inNewHalf cX0_inNewHalf 4 (some .long), Cond.methodLink RX0 73 yX1_setContent, Cond.instanceMethod yX1_setContent, Cond.selects RX1 yX1_setContent yX1_setContent, Cond.code yX1_setContent cX1_setContent 4 none, Cond.methodLink RL 148 yX3_about]
def wsL_law0_r7 : List Cond := [Cond.instanceMethod yX3_about, Cond.selects RX3 yX3_about yX3_about, Cond.code yX3_about cX3_about 2 (some .int), Cond.methodLink RX3 141 yX1_countMoved, Cond.instanceMethod yX1_countMoved, Cond.selects RX1 yX1_countMoved yX1_countMoved, Cond.code yX1_countMoved cX1_countMoved 3 (some .int)]
def wsL_law0 : List Cond := (wsL_law0_r1 ++ (wsL_law0_r2 ++ (wsL_law0_r3 ++ (wsL_law0_r4 ++ (wsL_law0_r5 ++ (wsL_law0_r6 ++ wsL_law0_r7)))))) ++ wsX30 ++ wsX00 ++ wsX20 ++ wsX10 ++ ([] : List Cond)
def wsL_law : List Cond := wsL_law0 ++ (vx_atS RX3 57 "java/lang/IllegalArgumentException" ["java/lang/RuntimeException", "java/lang/Exception"]).filter goodWord ++ (vx_atS RX3 164 "java/util/NoSuchElementException" ["java/lang/RuntimeException", "java/lang/Exception"]).filter goodWord
set_option maxRecDepth 20000 in
theorem wsL_law_in0 : ∀ w ∈ wsL_law0, w ∈ lw_tbl := fun w h => (goodIn_p wsL_law0 [23, 26, 31, 55, 74, 208, 211, 113, 117, 121, 125, 128, 132, 135, 140, 143, 148, 153, 157, 160, 165, 169, 173, 177, 182, 186, 191, 195, 199] (by decide +kernel) (by decide +kernel) w h).1
theorem wsL_law_x0 : ∀ w ∈ (vx_atS RX3 57 "java/lang/IllegalArgumentException" ["java/lang/RuntimeException", "java/lang/Exception"]).filter goodWord, w ∈ lw_tbl := by decide +kernel
theorem wsL_law_x1 : ∀ w ∈ (vx_atS RX3 164 "java/util/NoSuchElementException" ["java/lang/RuntimeException", "java/lang/Exception"]).filter goodWord, w ∈ lw_tbl := by decide +kernel
theorem wsL_law_in : ∀ w ∈ wsL_law, w ∈ lw_tbl := fun w h => (List.mem_append.mp h).elim (fun h => (List.mem_append.mp h).elim (fun h => wsL_law_in0 w h) (fun h => wsL_law_x0 w h)) (fun h => wsL_law_x1 w h)
theorem inlX0 : ∀ w ∈ wsX00, w ∈ wsL_law := fun _ h => List.mem_append_left _ (List.mem_append_left _ (List.mem_append_left _ (List.mem_append_left _ (List.mem_append_left _ (List.mem_append_right _ h)))))
theorem inX0 : ∀ w ∈ wsX00, w ∈ lw_tbl := fun w h => wsL_law_in w (inlX0 w h)
theorem inlX1 : ∀ w ∈ wsX10, w ∈ wsL_law := fun _ h => List.mem_append_left _ (List.mem_append_left _ (List.mem_append_left _ (List.mem_append_right _ h)))
theorem inX1 : ∀ w ∈ wsX10, w ∈ lw_tbl := fun w h => wsL_law_in w (inlX1 w h)
theorem inlX2 : ∀ w ∈ wsX20, w ∈ wsL_law := fun _ h => List.mem_append_left _ (List.mem_append_left _ (List.mem_append_left _ (List.mem_append_left _ (List.mem_append_right _ h))))
theorem inX2 : ∀ w ∈ wsX20, w ∈ lw_tbl := fun w h => wsL_law_in w (inlX2 w h)
theorem inlX3 : ∀ w ∈ wsX30, w ∈ wsL_law := fun _ h => List.mem_append_left _ (List.mem_append_left _ (List.mem_append_left _ (List.mem_append_left _ (List.mem_append_left _ (List.mem_append_left _ (List.mem_append_right _ h))))))
theorem inX3 : ∀ w ∈ wsX30, w ∈ lw_tbl := fun w h => wsL_law_in w (inlX3 w h)
theorem inX4 : ∀ w ∈ wsX40, w ∈ lw_tbl := by decide +kernel
theorem inJ0 : ∀ w ∈ wsJ00, w ∈ lw_tbl := by decide +kernel
theorem inJ7 : ∀ w ∈ wsJ70, w ∈ lw_tbl := by decide +kernel
theorem dX0_init_0 : decode cX0_init 0 = .ok (.aload_n 0, 1) := by decide +kernel
theorem dX0_init_1 : decode cX0_init 1 = .ok (.invokespecial 3, 3) := by decide +kernel
theorem dX0_init_4 : decode cX0_init 4 = .ok (.aload_n 0, 1) := by decide +kernel
theorem dX0_init_5 : decode cX0_init 5 = .ok (.bipush 120, 2) := by decide +kernel
theorem dX0_init_7 : decode cX0_init 7 = .ok (.newarray .int, 2) := by decide +kernel
theorem dX0_init_9 : decode cX0_init 9 = .ok (.putfield 9, 3) := by decide +kernel
theorem dX0_init_12 : decode cX0_init 12 = .ok (.aload_n 0, 1) := by decide +kernel
theorem dX0_init_13 : decode cX0_init 13 = .ok (.bipush 120, 2) := by decide +kernel
theorem dX0_init_15 : decode cX0_init 15 = .ok (.newarray .int, 2) := by decide +kernel
theorem dX0_init_17 : decode cX0_init 17 = .ok (.putfield 15, 3) := by decide +kernel
theorem dX0_init_20 : decode cX0_init 20 = .ok (.aload_n 0, 1) := by decide +kernel
theorem dX0_init_21 : decode cX0_init 21 = .ok (.bipush 120, 2) := by decide +kernel
theorem dX0_init_23 : decode cX0_init 23 = .ok (.newarray .int, 2) := by decide +kernel
theorem dX0_init_25 : decode cX0_init 25 = .ok (.putfield 18, 3) := by decide +kernel
theorem dX0_init_28 : decode cX0_init 28 = .ok (.aload_n 0, 1) := by decide +kernel
theorem dX0_init_29 : decode cX0_init 29 = .ok (.bipush 120, 2) := by decide +kernel
theorem dX0_init_31 : decode cX0_init 31 = .ok (.newarray .int, 2) := by decide +kernel
theorem dX0_init_33 : decode cX0_init 33 = .ok (.putfield 21, 3) := by decide +kernel
theorem dX0_init_36 : decode cX0_init 36 = .ok (.aload_n 0, 1) := by decide +kernel
theorem dX0_init_37 : decode cX0_init 37 = .ok (.iconst 0, 1) := by decide +kernel
theorem dX0_init_38 : decode cX0_init 38 = .ok (.putfield 24, 3) := by decide +kernel
theorem dX0_init_41 : decode cX0_init 41 = .ok (.return_, 1) := by decide +kernel
set_option maxRecDepth 20000 in
theorem ggX0_listReached_J7_fill_53178 : GoodIn wsX0_listReached wsJ7_fill_53178 := goodIn_r _ [9] (by decide +kernel) (by decide +kernel)
set_option maxRecDepth 20000 in
theorem gX0_listReached_J7_fill_53178 : GoodIn wsX0_listReached (va_wsS RX0 28 yJ7_fill_53178 wsJ7_fill_53178) := goodIn_app (goodIn_of _ (by decide +kernel)) ggX0_listReached_J7_fill_53178
set_option maxRecDepth 20000 in
theorem ggX0_listReached_X0_listPair : GoodIn wsX0_listReached wsX0_listPair := goodIn_r _ [14, 2, 1, 5, 15, 16, 17, 18, 19, 20, 21, 22, 23, 24, 25, 26, 27, 28, 29, 30, 31, 44, 45, 46, 47, 48, 49, 50, 51] (by decide +kernel) (by decide +kernel)
set_option maxRecDepth 20000 in
theorem gX0_listReached_X0_listPair : GoodIn wsX0_listReached (wsV RX0 34 RX0 yX0_listPair wsX0_listPair) := goodIn_app (goodIn_of _ (by decide +kernel)) ggX0_listReached_X0_listPair
set_option maxRecDepth 20000 in
theorem ggX0_listReached_X1_restOf : GoodIn wsX0_listReached wsX1_restOf := goodIn_r _ [35, 36, 37, 38, 22, 39, 40, 41, 16, 42, 27, 28, 29, 30, 31, 49, 50, 51] (by decide +kernel) (by decide +kernel)
set_option maxRecDepth 20000 in
theorem gX0_listReached_X1_restOf : GoodIn wsX0_listReached (wsV RX0 38 RX1 yX1_restOf wsX1_restOf) := goodIn_app (goodIn_of _ (by decide +kernel)) ggX0_listReached_X1_restOf
set_option maxRecDepth 20000 in
theorem ggX0_listReached_X1_contentAt : GoodIn wsX0_listReached wsX1_contentAt := goodIn_r _ [30, 31, 49, 50, 51] (by decide +kernel) (by decide +kernel)
set_option maxRecDepth 20000 in
theorem gX0_listReached_X1_contentAt : GoodIn wsX0_listReached (wsV RX0 44 RX1 yX1_contentAt wsX1_contentAt) := goodIn_app (goodIn_of _ (by decide +kernel)) ggX0_listReached_X1_contentAt
set_option maxRecDepth 20000 in
theorem ggX0_listReached_X3_kindOf : GoodIn wsX0_listReached wsX3_kindOf := goodIn_r _ [17, 18] (by decide +kernel) (by decide +kernel)
set_option maxRecDepth 20000 in
theorem gX0_listReached_X3_kindOf_n47 : GoodIn wsX0_listReached (wsX3_kindOf) := ggX0_listReached_X3_kindOf
set_option maxRecDepth 20000 in
theorem ggX0_listReached_X1_cellOf : GoodIn wsX0_listReached wsX1_cellOf := goodIn_r _ [23, 24, 16, 25, 26, 27, 28, 29, 22, 30, 31, 15, 17, 18, 49, 50, 51] (by decide +kernel) (by decide +kernel)
set_option maxRecDepth 20000 in
theorem gX0_listReached_X1_cellOf : GoodIn wsX0_listReached (wsV RX0 51 RX1 yX1_cellOf wsX1_cellOf) := goodIn_app (goodIn_of _ (by decide +kernel)) ggX0_listReached_X1_cellOf
theorem dX0_listReached_0 : decode cX0_listReached 0 = .ok (.aload_n 0, 1) := by decide +kernel
theorem dX0_listReached_1 : decode cX0_listReached 1 = .ok (.iconst 0, 1) := by decide +kernel
theorem dX0_listReached_2 : decode cX0_listReached 2 = .ok (.putfield 24, 3) := by decide +kernel
theorem dX0_listReached_5 : decode cX0_listReached 5 = .ok (.aload_n 0, 1) := by decide +kernel
theorem dX0_listReached_6 : decode cX0_listReached 6 = .ok (.getfield 15, 3) := by decide +kernel
theorem dX0_listReached_9 : decode cX0_listReached 9 = .ok (.iconst 0, 1) := by decide +kernel
theorem dX0_listReached_10 : decode cX0_listReached 10 = .ok (.invokestatic 28, 3) := by decide +kernel
theorem dX0_listReached_13 : decode cX0_listReached 13 = .ok (.aload_n 0, 1) := by decide +kernel
theorem dX0_listReached_14 : decode cX0_listReached 14 = .ok (.getfield 18, 3) := by decide +kernel
theorem dX0_listReached_17 : decode cX0_listReached 17 = .ok (.iconst 0, 1) := by decide +kernel
theorem dX0_listReached_18 : decode cX0_listReached 18 = .ok (.invokestatic 28, 3) := by decide +kernel
theorem dX0_listReached_21 : decode cX0_listReached 21 = .ok (.aload_n 0, 1) := by decide +kernel
theorem dX0_listReached_22 : decode cX0_listReached 22 = .ok (.getfield 21, 3) := by decide +kernel
theorem dX0_listReached_25 : decode cX0_listReached 25 = .ok (.iconst (-1), 1) := by decide +kernel
theorem dX0_listReached_26 : decode cX0_listReached 26 = .ok (.invokestatic 28, 3) := by decide +kernel
theorem dX0_listReached_29 : decode cX0_listReached 29 = .ok (.iconst 0, 1) := by decide +kernel
theorem dX0_listReached_30 : decode cX0_listReached 30 = .ok (.istore_n 3, 1) := by decide +kernel
theorem dX0_listReached_31 : decode cX0_listReached 31 = .ok (.iload_n 3, 1) := by decide +kernel
theorem dX0_listReached_32 : decode cX0_listReached 32 = .ok (.aload_n 2, 1) := by decide +kernel
theorem dX0_listReached_33 : decode cX0_listReached 33 = .ok (.arraylength, 1) := by decide +kernel
theorem dX0_listReached_34 : decode cX0_listReached 34 = .ok (.if_icmp .ge 17, 3) := by decide +kernel
theorem dX0_listReached_37 : decode cX0_listReached 37 = .ok (.aload_n 0, 1) := by decide +kernel
theorem dX0_listReached_38 : decode cX0_listReached 38 = .ok (.aload_n 1, 1) := by decide +kernel
theorem dX0_listReached_39 : decode cX0_listReached 39 = .ok (.aload_n 2, 1) := by decide +kernel
theorem dX0_listReached_40 : decode cX0_listReached 40 = .ok (.iload_n 3, 1) := by decide +kernel
theorem dX0_listReached_41 : decode cX0_listReached 41 = .ok (.laload, 1) := by decide +kernel
theorem dX0_listReached_42 : decode cX0_listReached 42 = .ok (.invokevirtual 34, 3) := by decide +kernel
theorem dX0_listReached_45 : decode cX0_listReached 45 = .ok (.iinc 3 1, 3) := by decide +kernel
theorem dX0_listReached_48 : decode cX0_listReached 48 = .ok (.goto (-17), 3) := by decide +kernel
theorem dX0_listReached_51 : decode cX0_listReached 51 = .ok (.iconst 0, 1) := by decide +kernel
theorem dX0_listReached_52 : decode cX0_listReached 52 = .ok (.istore_n 3, 1) := by decide +kernel
theorem dX0_listReached_53 : decode cX0_listReached 53 = .ok (.iload_n 3, 1) := by decide +kernel
theorem dX0_listReached_54 : decode cX0_listReached 54 = .ok (.aload_n 0, 1) := by decide +kernel
theorem dX0_listReached_55 : decode cX0_listReached 55 = .ok (.getfield 24, 3) := by decide +kernel
theorem dX0_listReached_58 : decode cX0_listReached 58 = .ok (.if_icmp .ge 70, 3) := by decide +kernel
theorem dX0_listReached_61 : decode cX0_listReached 61 = .ok (.iload_n 3, 1) := by decide +kernel
theorem dX0_listReached_62 : decode cX0_listReached 62 = .ok (.bipush 120, 2) := by decide +kernel
theorem dX0_listReached_64 : decode cX0_listReached 64 = .ok (.if_icmp .ge 64, 3) := by decide +kernel
theorem dX0_listReached_67 : decode cX0_listReached 67 = .ok (.aload_n 0, 1) := by decide +kernel
theorem dX0_listReached_68 : decode cX0_listReached 68 = .ok (.getfield 9, 3) := by decide +kernel
theorem dX0_listReached_71 : decode cX0_listReached 71 = .ok (.iload_n 3, 1) := by decide +kernel
theorem dX0_listReached_72 : decode cX0_listReached 72 = .ok (.iaload, 1) := by decide +kernel
theorem dX0_listReached_73 : decode cX0_listReached 73 = .ok (.istore 4, 2) := by decide +kernel
theorem dX0_listReached_75 : decode cX0_listReached 75 = .ok (.aload_n 1, 1) := by decide +kernel
theorem dX0_listReached_76 : decode cX0_listReached 76 = .ok (.iload 4, 2) := by decide +kernel
theorem dX0_listReached_78 : decode cX0_listReached 78 = .ok (.invokevirtual 38, 3) := by decide +kernel
theorem dX0_listReached_81 : decode cX0_listReached 81 = .ok (.lstore 5, 2) := by decide +kernel
theorem dX0_listReached_83 : decode cX0_listReached 83 = .ok (.aload_n 0, 1) := by decide +kernel
theorem dX0_listReached_84 : decode cX0_listReached 84 = .ok (.aload_n 1, 1) := by decide +kernel
theorem dX0_listReached_85 : decode cX0_listReached 85 = .ok (.aload_n 1, 1) := by decide +kernel
theorem dX0_listReached_86 : decode cX0_listReached 86 = .ok (.iload 4, 2) := by decide +kernel
theorem dX0_listReached_88 : decode cX0_listReached 88 = .ok (.invokevirtual 44, 3) := by decide +kernel
theorem dX0_listReached_91 : decode cX0_listReached 91 = .ok (.invokevirtual 34, 3) := by decide +kernel
theorem dX0_listReached_94 : decode cX0_listReached 94 = .ok (.aload_n 0, 1) := by decide +kernel
theorem dX0_listReached_95 : decode cX0_listReached 95 = .ok (.aload_n 1, 1) := by decide +kernel
theorem dX0_listReached_96 : decode cX0_listReached 96 = .ok (.lload 5, 2) := by decide +kernel
theorem dX0_listReached_98 : decode cX0_listReached 98 = .ok (.invokevirtual 34, 3) := by decide +kernel
theorem dX0_listReached_101 : decode cX0_listReached 101 = .ok (.lload 5, 2) := by decide +kernel
theorem dX0_listReached_103 : decode cX0_listReached 103 = .ok (.invokestatic 47, 3) := by decide +kernel
theorem dX0_listReached_106 : decode cX0_listReached 106 = .ok (.iconst 2, 1) := by decide +kernel
theorem dX0_listReached_107 : decode cX0_listReached 107 = .ok (.if_icmp .ne 15, 3) := by decide +kernel
theorem dX0_listReached_110 : decode cX0_listReached 110 = .ok (.aload_n 0, 1) := by decide +kernel
theorem dX0_listReached_111 : decode cX0_listReached 111 = .ok (.getfield 18, 3) := by decide +kernel
theorem dX0_listReached_114 : decode cX0_listReached 114 = .ok (.aload_n 1, 1) := by decide +kernel
theorem dX0_listReached_115 : decode cX0_listReached 115 = .ok (.lload 5, 2) := by decide +kernel
theorem dX0_listReached_117 : decode cX0_listReached 117 = .ok (.invokevirtual 51, 3) := by decide +kernel
theorem dX0_listReached_120 : decode cX0_listReached 120 = .ok (.iconst 1, 1) := by decide +kernel
theorem dX0_listReached_121 : decode cX0_listReached 121 = .ok (.iastore, 1) := by decide +kernel
theorem dX0_listReached_122 : decode cX0_listReached 122 = .ok (.iinc 3 1, 3) := by decide +kernel
theorem dX0_listReached_125 : decode cX0_listReached 125 = .ok (.goto (-72), 3) := by decide +kernel
theorem dX0_listReached_128 : decode cX0_listReached 128 = .ok (.return_, 1) := by decide +kernel
set_option maxRecDepth 20000 in
theorem ggX0_listPair_X3_kindOf : GoodIn wsX0_listPair wsX3_kindOf := goodIn_r _ [6, 7] (by decide +kernel) (by decide +kernel)
set_option maxRecDepth 20000 in
theorem gX0_listPair_X3_kindOf_n47 : GoodIn wsX0_listPair (wsX3_kindOf) := ggX0_listPair_X3_kindOf
set_option maxRecDepth 20000 in
theorem ggX0_listPair_X1_cellOf : GoodIn wsX0_listPair wsX1_cellOf := goodIn_r _ [12, 13, 5, 14, 15, 16, 17, 18, 11, 19, 20, 4, 6, 7, 26, 27, 28] (by decide +kernel) (by decide +kernel)
set_option maxRecDepth 20000 in
theorem gX0_listPair_X1_cellOf : GoodIn wsX0_listPair (wsV RX0 51 RX1 yX1_cellOf wsX1_cellOf) := goodIn_app (goodIn_of _ (by decide +kernel)) ggX0_listPair_X1_cellOf
theorem dX0_listPair_0 : decode cX0_listPair 0 = .ok (.lload_n 2, 1) := by decide +kernel
theorem dX0_listPair_1 : decode cX0_listPair 1 = .ok (.invokestatic 47, 3) := by decide +kernel
theorem dX0_listPair_4 : decode cX0_listPair 4 = .ok (.iconst 2, 1) := by decide +kernel
theorem dX0_listPair_5 : decode cX0_listPair 5 = .ok (.if_icmp .eq 4, 3) := by decide +kernel
theorem dX0_listPair_8 : decode cX0_listPair 8 = .ok (.return_, 1) := by decide +kernel
theorem dX0_listPair_9 : decode cX0_listPair 9 = .ok (.aload_n 1, 1) := by decide +kernel
theorem dX0_listPair_10 : decode cX0_listPair 10 = .ok (.lload_n 2, 1) := by decide +kernel
theorem dX0_listPair_11 : decode cX0_listPair 11 = .ok (.invokevirtual 51, 3) := by decide +kernel
theorem dX0_listPair_14 : decode cX0_listPair 14 = .ok (.istore 4, 2) := by decide +kernel
theorem dX0_listPair_16 : decode cX0_listPair 16 = .ok (.aload_n 0, 1) := by decide +kernel
theorem dX0_listPair_17 : decode cX0_listPair 17 = .ok (.getfield 15, 3) := by decide +kernel
theorem dX0_listPair_20 : decode cX0_listPair 20 = .ok (.iload 4, 2) := by decide +kernel
theorem dX0_listPair_22 : decode cX0_listPair 22 = .ok (.iaload, 1) := by decide +kernel
theorem dX0_listPair_23 : decode cX0_listPair 23 = .ok (.ifCond .ne 41, 3) := by decide +kernel
theorem dX0_listPair_26 : decode cX0_listPair 26 = .ok (.aload_n 0, 1) := by decide +kernel
theorem dX0_listPair_27 : decode cX0_listPair 27 = .ok (.getfield 24, 3) := by decide +kernel
theorem dX0_listPair_30 : decode cX0_listPair 30 = .ok (.bipush 120, 2) := by decide +kernel
theorem dX0_listPair_32 : decode cX0_listPair 32 = .ok (.if_icmp .ge 32, 3) := by decide +kernel
theorem dX0_listPair_35 : decode cX0_listPair 35 = .ok (.aload_n 0, 1) := by decide +kernel
theorem dX0_listPair_36 : decode cX0_listPair 36 = .ok (.getfield 15, 3) := by decide +kernel
theorem dX0_listPair_39 : decode cX0_listPair 39 = .ok (.iload 4, 2) := by decide +kernel
theorem dX0_listPair_41 : decode cX0_listPair 41 = .ok (.iconst 1, 1) := by decide +kernel
theorem dX0_listPair_42 : decode cX0_listPair 42 = .ok (.iastore, 1) := by decide +kernel
theorem dX0_listPair_43 : decode cX0_listPair 43 = .ok (.aload_n 0, 1) := by decide +kernel
theorem dX0_listPair_44 : decode cX0_listPair 44 = .ok (.getfield 9, 3) := by decide +kernel
theorem dX0_listPair_47 : decode cX0_listPair 47 = .ok (.aload_n 0, 1) := by decide +kernel
theorem dX0_listPair_48 : decode cX0_listPair 48 = .ok (.getfield 24, 3) := by decide +kernel
theorem dX0_listPair_51 : decode cX0_listPair 51 = .ok (.iload 4, 2) := by decide +kernel
theorem dX0_listPair_53 : decode cX0_listPair 53 = .ok (.iastore, 1) := by decide +kernel
theorem dX0_listPair_54 : decode cX0_listPair 54 = .ok (.aload_n 0, 1) := by decide +kernel
theorem dX0_listPair_55 : decode cX0_listPair 55 = .ok (.dup, 1) := by decide +kernel
theorem dX0_listPair_56 : decode cX0_listPair 56 = .ok (.getfield 24, 3) := by decide +kernel
theorem dX0_listPair_59 : decode cX0_listPair 59 = .ok (.iconst 1, 1) := by decide +kernel
theorem dX0_listPair_60 : decode cX0_listPair 60 = .ok (.iadd, 1) := by decide +kernel
theorem dX0_listPair_61 : decode cX0_listPair 61 = .ok (.putfield 24, 3) := by decide +kernel
theorem dX0_listPair_64 : decode cX0_listPair 64 = .ok (.return_, 1) := by decide +kernel
set_option maxRecDepth 20000 in
theorem ggX0_layListed_X0_layCell : GoodIn wsX0_layListed wsX0_layCell := goodIn_r _ [9, 3, 10, 11, 12, 13, 14, 15, 16, 17, 18, 19, 20, 21, 22, 23, 24, 25, 26, 27, 28, 29, 30, 31, 32, 33, 34, 35, 36, 37, 38, 39, 40, 41, 42, 43, 44, 45, 46, 47, 48, 49, 50, 51, 52, 53, 54, 55, 56] (by decide +kernel) (by decide +kernel)
set_option maxRecDepth 20000 in
theorem gX0_layListed_X0_layCell : GoodIn wsX0_layListed (wsV RX0 54 RX0 yX0_layCell wsX0_layCell) := goodIn_app (goodIn_of _ (by decide +kernel)) ggX0_layListed_X0_layCell
theorem dX0_layListed_0 : decode cX0_layListed 0 = .ok (.iconst 0, 1) := by decide +kernel
theorem dX0_layListed_1 : decode cX0_layListed 1 = .ok (.istore 4, 2) := by decide +kernel
theorem dX0_layListed_3 : decode cX0_layListed 3 = .ok (.iload 4, 2) := by decide +kernel
theorem dX0_layListed_5 : decode cX0_layListed 5 = .ok (.aload_n 0, 1) := by decide +kernel
theorem dX0_layListed_6 : decode cX0_layListed 6 = .ok (.getfield 24, 3) := by decide +kernel
theorem dX0_layListed_9 : decode cX0_layListed 9 = .ok (.if_icmp .ge 86, 3) := by decide +kernel
theorem dX0_layListed_12 : decode cX0_layListed 12 = .ok (.iload 4, 2) := by decide +kernel
theorem dX0_layListed_14 : decode cX0_layListed 14 = .ok (.bipush 120, 2) := by decide +kernel
theorem dX0_layListed_16 : decode cX0_layListed 16 = .ok (.if_icmp .ge 79, 3) := by decide +kernel
theorem dX0_layListed_19 : decode cX0_layListed 19 = .ok (.aload_n 0, 1) := by decide +kernel
theorem dX0_layListed_20 : decode cX0_layListed 20 = .ok (.getfield 9, 3) := by decide +kernel
theorem dX0_layListed_23 : decode cX0_layListed 23 = .ok (.iload 4, 2) := by decide +kernel
theorem dX0_layListed_25 : decode cX0_layListed 25 = .ok (.iaload, 1) := by decide +kernel
theorem dX0_layListed_26 : decode cX0_layListed 26 = .ok (.istore 5, 2) := by decide +kernel
theorem dX0_layListed_28 : decode cX0_layListed 28 = .ok (.aload_n 0, 1) := by decide +kernel
theorem dX0_layListed_29 : decode cX0_layListed 29 = .ok (.getfield 21, 3) := by decide +kernel
theorem dX0_layListed_32 : decode cX0_layListed 32 = .ok (.iload 5, 2) := by decide +kernel
theorem dX0_layListed_34 : decode cX0_layListed 34 = .ok (.iaload, 1) := by decide +kernel
theorem dX0_layListed_35 : decode cX0_layListed 35 = .ok (.iconst (-1), 1) := by decide +kernel
theorem dX0_layListed_36 : decode cX0_layListed 36 = .ok (.if_icmp .ne 53, 3) := by decide +kernel
theorem dX0_layListed_39 : decode cX0_layListed 39 = .ok (.iload_n 3, 1) := by decide +kernel
theorem dX0_layListed_40 : decode cX0_layListed 40 = .ok (.ifCond .eq 17, 3) := by decide +kernel
theorem dX0_layListed_43 : decode cX0_layListed 43 = .ok (.aload_n 0, 1) := by decide +kernel
theorem dX0_layListed_44 : decode cX0_layListed 44 = .ok (.getfield 18, 3) := by decide +kernel
theorem dX0_layListed_47 : decode cX0_layListed 47 = .ok (.iload 5, 2) := by decide +kernel
theorem dX0_layListed_49 : decode cX0_layListed 49 = .ok (.iaload, 1) := by decide +kernel
theorem dX0_layListed_50 : decode cX0_layListed 50 = .ok (.iconst 1, 1) := by decide +kernel
theorem dX0_layListed_51 : decode cX0_layListed 51 = .ok (.if_icmp .ne 6, 3) := by decide +kernel
theorem dX0_layListed_54 : decode cX0_layListed 54 = .ok (.goto 35, 3) := by decide +kernel
theorem dX0_layListed_57 : decode cX0_layListed 57 = .ok (.iconst 0, 1) := by decide +kernel
theorem dX0_layListed_58 : decode cX0_layListed 58 = .ok (.istore 6, 2) := by decide +kernel
theorem dX0_layListed_60 : decode cX0_layListed 60 = .ok (.iload 6, 2) := by decide +kernel
theorem dX0_layListed_62 : decode cX0_layListed 62 = .ok (.bipush 120, 2) := by decide +kernel
theorem dX0_layListed_64 : decode cX0_layListed 64 = .ok (.if_icmp .ge 25, 3) := by decide +kernel
theorem dX0_layListed_67 : decode cX0_layListed 67 = .ok (.iload 5, 2) := by decide +kernel
theorem dX0_layListed_69 : decode cX0_layListed 69 = .ok (.iconst (-1), 1) := by decide +kernel
theorem dX0_layListed_70 : decode cX0_layListed 70 = .ok (.if_icmp .eq 19, 3) := by decide +kernel
theorem dX0_layListed_73 : decode cX0_layListed 73 = .ok (.aload_n 0, 1) := by decide +kernel
theorem dX0_layListed_74 : decode cX0_layListed 74 = .ok (.aload_n 1, 1) := by decide +kernel
theorem dX0_layListed_75 : decode cX0_layListed 75 = .ok (.aload_n 2, 1) := by decide +kernel
theorem dX0_layListed_76 : decode cX0_layListed 76 = .ok (.iload 5, 2) := by decide +kernel
theorem dX0_layListed_78 : decode cX0_layListed 78 = .ok (.invokevirtual 54, 3) := by decide +kernel
theorem dX0_layListed_81 : decode cX0_layListed 81 = .ok (.istore 5, 2) := by decide +kernel
theorem dX0_layListed_83 : decode cX0_layListed 83 = .ok (.iinc 6 1, 3) := by decide +kernel
theorem dX0_layListed_86 : decode cX0_layListed 86 = .ok (.goto (-26), 3) := by decide +kernel
theorem dX0_layListed_89 : decode cX0_layListed 89 = .ok (.iinc 4 1, 3) := by decide +kernel
theorem dX0_layListed_92 : decode cX0_layListed 92 = .ok (.goto (-89), 3) := by decide +kernel
theorem dX0_layListed_95 : decode cX0_layListed 95 = .ok (.return_, 1) := by decide +kernel
set_option maxRecDepth 20000 in
theorem ggX0_layCell_X1_contentAt : GoodIn wsX0_layCell wsX1_contentAt := goodIn_r _ [6, 7, 46, 47, 48] (by decide +kernel) (by decide +kernel)
set_option maxRecDepth 20000 in
theorem gX0_layCell_X1_contentAt : GoodIn wsX0_layCell (wsV RX0 44 RX1 yX1_contentAt wsX1_contentAt) := goodIn_app (goodIn_of _ (by decide +kernel)) ggX0_layCell_X1_contentAt
set_option maxRecDepth 20000 in
theorem ggX0_layCell_X1_restOf : GoodIn wsX0_layCell wsX1_restOf := goodIn_r _ [11, 12, 13, 14, 5, 15, 16, 17, 18, 19, 20, 3, 4, 6, 7, 46, 47, 48] (by decide +kernel) (by decide +kernel)
set_option maxRecDepth 20000 in
theorem gX0_layCell_X1_restOf : GoodIn wsX0_layCell (wsV RX0 38 RX1 yX1_restOf wsX1_restOf) := goodIn_app (goodIn_of _ (by decide +kernel)) ggX0_layCell_X1_restOf
set_option maxRecDepth 20000 in
theorem ggX0_layCell_X3_kindOf : GoodIn wsX0_layCell wsX3_kindOf := goodIn_r _ [22, 23] (by decide +kernel) (by decide +kernel)
set_option maxRecDepth 20000 in
theorem gX0_layCell_X3_kindOf_n47 : GoodIn wsX0_layCell (wsX3_kindOf) := ggX0_layCell_X3_kindOf
set_option maxRecDepth 20000 in
theorem ggX0_layCell_X1_take : GoodIn wsX0_layCell wsX1_take := goodIn_r _ [27, 28, 16, 7, 46, 47, 48] (by decide +kernel) (by decide +kernel)
set_option maxRecDepth 20000 in
theorem gX0_layCell_X1_take : GoodIn wsX0_layCell (wsV RX0 61 RX1 yX1_take wsX1_take) := goodIn_app (goodIn_of _ (by decide +kernel)) ggX0_layCell_X1_take
set_option maxRecDepth 20000 in
theorem ggX0_layCell_X1_cellOf : GoodIn wsX0_layCell wsX1_cellOf := goodIn_r _ [32, 33, 18, 34, 35, 20, 3, 4, 5, 6, 7, 21, 22, 23, 46, 47, 48] (by decide +kernel) (by decide +kernel)
set_option maxRecDepth 20000 in
theorem gX0_layCell_X1_cellOf : GoodIn wsX0_layCell (wsV RX0 51 RX1 yX1_cellOf wsX1_cellOf) := goodIn_app (goodIn_of _ (by decide +kernel)) ggX0_layCell_X1_cellOf
set_option maxRecDepth 20000 in
theorem ggX0_layCell_X1_takeTwo : GoodIn wsX0_layCell wsX1_takeTwo := goodIn_r _ [39, 40, 25, 26, 5, 27, 28, 16, 7, 46, 47, 48] (by decide +kernel) (by decide +kernel)
set_option maxRecDepth 20000 in
theorem gX0_layCell_X1_takeTwo : GoodIn wsX0_layCell (wsV RX0 65 RX1 yX1_takeTwo wsX1_takeTwo) := goodIn_app (goodIn_of _ (by decide +kernel)) ggX0_layCell_X1_takeTwo
theorem dX0_layCell_0 : decode cX0_layCell 0 = .ok (.aload_n 1, 1) := by decide +kernel
theorem dX0_layCell_1 : decode cX0_layCell 1 = .ok (.iload_n 3, 1) := by decide +kernel
theorem dX0_layCell_2 : decode cX0_layCell 2 = .ok (.invokevirtual 44, 3) := by decide +kernel
theorem dX0_layCell_5 : decode cX0_layCell 5 = .ok (.lstore 4, 2) := by decide +kernel
theorem dX0_layCell_7 : decode cX0_layCell 7 = .ok (.aload_n 1, 1) := by decide +kernel
theorem dX0_layCell_8 : decode cX0_layCell 8 = .ok (.iload_n 3, 1) := by decide +kernel
theorem dX0_layCell_9 : decode cX0_layCell 9 = .ok (.invokevirtual 38, 3) := by decide +kernel
theorem dX0_layCell_12 : decode cX0_layCell 12 = .ok (.lstore 6, 2) := by decide +kernel
theorem dX0_layCell_14 : decode cX0_layCell 14 = .ok (.aload_n 0, 1) := by decide +kernel
theorem dX0_layCell_15 : decode cX0_layCell 15 = .ok (.getfield 21, 3) := by decide +kernel
theorem dX0_layCell_18 : decode cX0_layCell 18 = .ok (.iload_n 3, 1) := by decide +kernel
theorem dX0_layCell_19 : decode cX0_layCell 19 = .ok (.aload_n 2, 1) := by decide +kernel
theorem dX0_layCell_20 : decode cX0_layCell 20 = .ok (.getfield 58, 3) := by decide +kernel
theorem dX0_layCell_23 : decode cX0_layCell 23 = .ok (.iastore, 1) := by decide +kernel
theorem dX0_layCell_24 : decode cX0_layCell 24 = .ok (.lload 6, 2) := by decide +kernel
theorem dX0_layCell_26 : decode cX0_layCell 26 = .ok (.invokestatic 47, 3) := by decide +kernel
theorem dX0_layCell_29 : decode cX0_layCell 29 = .ok (.ifCond .ne 13, 3) := by decide +kernel
theorem dX0_layCell_32 : decode cX0_layCell 32 = .ok (.aload_n 2, 1) := by decide +kernel
theorem dX0_layCell_33 : decode cX0_layCell 33 = .ok (.iconst 1, 1) := by decide +kernel
theorem dX0_layCell_34 : decode cX0_layCell 34 = .ok (.lload 4, 2) := by decide +kernel
theorem dX0_layCell_36 : decode cX0_layCell 36 = .ok (.invokevirtual 61, 3) := by decide +kernel
theorem dX0_layCell_39 : decode cX0_layCell 39 = .ok (.pop, 1) := by decide +kernel
theorem dX0_layCell_40 : decode cX0_layCell 40 = .ok (.iconst (-1), 1) := by decide +kernel
theorem dX0_layCell_41 : decode cX0_layCell 41 = .ok (.ireturn, 1) := by decide +kernel
theorem dX0_layCell_42 : decode cX0_layCell 42 = .ok (.lload 6, 2) := by decide +kernel
theorem dX0_layCell_44 : decode cX0_layCell 44 = .ok (.invokestatic 47, 3) := by decide +kernel
theorem dX0_layCell_47 : decode cX0_layCell 47 = .ok (.iconst 2, 1) := by decide +kernel
theorem dX0_layCell_48 : decode cX0_layCell 48 = .ok (.if_icmp .ne 33, 3) := by decide +kernel
theorem dX0_layCell_51 : decode cX0_layCell 51 = .ok (.aload_n 1, 1) := by decide +kernel
theorem dX0_layCell_52 : decode cX0_layCell 52 = .ok (.lload 6, 2) := by decide +kernel
theorem dX0_layCell_54 : decode cX0_layCell 54 = .ok (.invokevirtual 51, 3) := by decide +kernel
theorem dX0_layCell_57 : decode cX0_layCell 57 = .ok (.istore 8, 2) := by decide +kernel
theorem dX0_layCell_59 : decode cX0_layCell 59 = .ok (.aload_n 0, 1) := by decide +kernel
theorem dX0_layCell_60 : decode cX0_layCell 60 = .ok (.getfield 21, 3) := by decide +kernel
theorem dX0_layCell_63 : decode cX0_layCell 63 = .ok (.iload 8, 2) := by decide +kernel
theorem dX0_layCell_65 : decode cX0_layCell 65 = .ok (.iaload, 1) := by decide +kernel
theorem dX0_layCell_66 : decode cX0_layCell 66 = .ok (.iconst (-1), 1) := by decide +kernel
theorem dX0_layCell_67 : decode cX0_layCell 67 = .ok (.if_icmp .ne 14, 3) := by decide +kernel
theorem dX0_layCell_70 : decode cX0_layCell 70 = .ok (.aload_n 2, 1) := by decide +kernel
theorem dX0_layCell_71 : decode cX0_layCell 71 = .ok (.iconst 0, 1) := by decide +kernel
theorem dX0_layCell_72 : decode cX0_layCell 72 = .ok (.lload 4, 2) := by decide +kernel
theorem dX0_layCell_74 : decode cX0_layCell 74 = .ok (.invokevirtual 61, 3) := by decide +kernel
theorem dX0_layCell_77 : decode cX0_layCell 77 = .ok (.pop, 1) := by decide +kernel
theorem dX0_layCell_78 : decode cX0_layCell 78 = .ok (.iload 8, 2) := by decide +kernel
theorem dX0_layCell_80 : decode cX0_layCell 80 = .ok (.ireturn, 1) := by decide +kernel
theorem dX0_layCell_81 : decode cX0_layCell 81 = .ok (.aload_n 2, 1) := by decide +kernel
theorem dX0_layCell_82 : decode cX0_layCell 82 = .ok (.lload 4, 2) := by decide +kernel
theorem dX0_layCell_84 : decode cX0_layCell 84 = .ok (.lload 6, 2) := by decide +kernel
theorem dX0_layCell_86 : decode cX0_layCell 86 = .ok (.invokevirtual 65, 3) := by decide +kernel
theorem dX0_layCell_89 : decode cX0_layCell 89 = .ok (.pop, 1) := by decide +kernel
theorem dX0_layCell_90 : decode cX0_layCell 90 = .ok (.iconst (-1), 1) := by decide +kernel
theorem dX0_layCell_91 : decode cX0_layCell 91 = .ok (.ireturn, 1) := by decide +kernel
set_option maxRecDepth 20000 in
theorem ggX0_tellNewPlaces_X1_contentAt : GoodIn wsX0_tellNewPlaces wsX1_contentAt := goodIn_r _ [5, 6, 31, 32, 33] (by decide +kernel) (by decide +kernel)
set_option maxRecDepth 20000 in
theorem gX0_tellNewPlaces_X1_contentAt : GoodIn wsX0_tellNewPlaces (wsV RX0 44 RX1 yX1_contentAt wsX1_contentAt) := goodIn_app (goodIn_of _ (by decide +kernel)) ggX0_tellNewPlaces_X1_contentAt
set_option maxRecDepth 20000 in
theorem ggX0_tellNewPlaces_X0_inNewHalf : GoodIn wsX0_tellNewPlaces wsX0_inNewHalf := goodIn_r _ [11, 12, 13, 14, 15, 16, 17, 18, 19, 4, 20, 21, 22, 23, 24, 2, 3, 5, 6, 25, 26, 34, 35, 36, 37, 38, 31, 32, 33] (by decide +kernel) (by decide +kernel)
set_option maxRecDepth 20000 in
theorem gX0_tellNewPlaces_X0_inNewHalf : GoodIn wsX0_tellNewPlaces (wsV RX0 69 RX0 yX0_inNewHalf wsX0_inNewHalf) := goodIn_app (goodIn_of _ (by decide +kernel)) ggX0_tellNewPlaces_X0_inNewHalf
set_option maxRecDepth 20000 in
theorem ggX0_tellNewPlaces_X1_setContent : GoodIn wsX0_tellNewPlaces wsX1_setContent := goodIn_r _ [30, 6, 31, 32, 33] (by decide +kernel) (by decide +kernel)
set_option maxRecDepth 20000 in
theorem gX0_tellNewPlaces_X1_setContent : GoodIn wsX0_tellNewPlaces (wsV RX0 73 RX1 yX1_setContent wsX1_setContent) := goodIn_app (goodIn_of _ (by decide +kernel)) ggX0_tellNewPlaces_X1_setContent
theorem dX0_tellNewPlaces_0 : decode cX0_tellNewPlaces 0 = .ok (.iconst 0, 1) := by decide +kernel
theorem dX0_tellNewPlaces_1 : decode cX0_tellNewPlaces 1 = .ok (.istore 4, 2) := by decide +kernel
theorem dX0_tellNewPlaces_3 : decode cX0_tellNewPlaces 3 = .ok (.iload 4, 2) := by decide +kernel
theorem dX0_tellNewPlaces_5 : decode cX0_tellNewPlaces 5 = .ok (.aload_n 2, 1) := by decide +kernel
theorem dX0_tellNewPlaces_6 : decode cX0_tellNewPlaces 6 = .ok (.getfield 58, 3) := by decide +kernel
theorem dX0_tellNewPlaces_9 : decode cX0_tellNewPlaces 9 = .ok (.if_icmp .ge 26, 3) := by decide +kernel
theorem dX0_tellNewPlaces_12 : decode cX0_tellNewPlaces 12 = .ok (.aload_n 2, 1) := by decide +kernel
theorem dX0_tellNewPlaces_13 : decode cX0_tellNewPlaces 13 = .ok (.iload 4, 2) := by decide +kernel
theorem dX0_tellNewPlaces_15 : decode cX0_tellNewPlaces 15 = .ok (.aload_n 0, 1) := by decide +kernel
theorem dX0_tellNewPlaces_16 : decode cX0_tellNewPlaces 16 = .ok (.aload_n 1, 1) := by decide +kernel
theorem dX0_tellNewPlaces_17 : decode cX0_tellNewPlaces 17 = .ok (.aload_n 2, 1) := by decide +kernel
theorem dX0_tellNewPlaces_18 : decode cX0_tellNewPlaces 18 = .ok (.iload 4, 2) := by decide +kernel
theorem dX0_tellNewPlaces_20 : decode cX0_tellNewPlaces 20 = .ok (.invokevirtual 44, 3) := by decide +kernel
theorem dX0_tellNewPlaces_23 : decode cX0_tellNewPlaces 23 = .ok (.invokevirtual 69, 3) := by decide +kernel
theorem dX0_tellNewPlaces_26 : decode cX0_tellNewPlaces 26 = .ok (.invokevirtual 73, 3) := by decide +kernel
theorem dX0_tellNewPlaces_29 : decode cX0_tellNewPlaces 29 = .ok (.iinc 4 1, 3) := by decide +kernel
theorem dX0_tellNewPlaces_32 : decode cX0_tellNewPlaces 32 = .ok (.goto (-29), 3) := by decide +kernel
theorem dX0_tellNewPlaces_35 : decode cX0_tellNewPlaces 35 = .ok (.iconst 0, 1) := by decide +kernel
theorem dX0_tellNewPlaces_36 : decode cX0_tellNewPlaces 36 = .ok (.istore 4, 2) := by decide +kernel
theorem dX0_tellNewPlaces_38 : decode cX0_tellNewPlaces 38 = .ok (.iload 4, 2) := by decide +kernel
theorem dX0_tellNewPlaces_40 : decode cX0_tellNewPlaces 40 = .ok (.aload_n 3, 1) := by decide +kernel
theorem dX0_tellNewPlaces_41 : decode cX0_tellNewPlaces 41 = .ok (.arraylength, 1) := by decide +kernel
theorem dX0_tellNewPlaces_42 : decode cX0_tellNewPlaces 42 = .ok (.if_icmp .ge 22, 3) := by decide +kernel
theorem dX0_tellNewPlaces_45 : decode cX0_tellNewPlaces 45 = .ok (.aload_n 3, 1) := by decide +kernel
theorem dX0_tellNewPlaces_46 : decode cX0_tellNewPlaces 46 = .ok (.iload 4, 2) := by decide +kernel
theorem dX0_tellNewPlaces_48 : decode cX0_tellNewPlaces 48 = .ok (.aload_n 0, 1) := by decide +kernel
theorem dX0_tellNewPlaces_49 : decode cX0_tellNewPlaces 49 = .ok (.aload_n 1, 1) := by decide +kernel
theorem dX0_tellNewPlaces_50 : decode cX0_tellNewPlaces 50 = .ok (.aload_n 3, 1) := by decide +kernel
theorem dX0_tellNewPlaces_51 : decode cX0_tellNewPlaces 51 = .ok (.iload 4, 2) := by decide +kernel
theorem dX0_tellNewPlaces_53 : decode cX0_tellNewPlaces 53 = .ok (.laload, 1) := by decide +kernel
theorem dX0_tellNewPlaces_54 : decode cX0_tellNewPlaces 54 = .ok (.invokevirtual 69, 3) := by decide +kernel
theorem dX0_tellNewPlaces_57 : decode cX0_tellNewPlaces 57 = .ok (.lastore, 1) := by decide +kernel
theorem dX0_tellNewPlaces_58 : decode cX0_tellNewPlaces 58 = .ok (.iinc 4 1, 3) := by decide +kernel
theorem dX0_tellNewPlaces_61 : decode cX0_tellNewPlaces 61 = .ok (.goto (-23), 3) := by decide +kernel
theorem dX0_tellNewPlaces_64 : decode cX0_tellNewPlaces 64 = .ok (.return_, 1) := by decide +kernel
set_option maxRecDepth 20000 in
theorem ggX0_inNewHalf_X3_kindOf : GoodIn wsX0_inNewHalf wsX3_kindOf := goodIn_r _ [4, 5] (by decide +kernel) (by decide +kernel)
set_option maxRecDepth 20000 in
theorem gX0_inNewHalf_X3_kindOf_n47 : GoodIn wsX0_inNewHalf (wsX3_kindOf) := ggX0_inNewHalf_X3_kindOf
set_option maxRecDepth 20000 in
theorem ggX0_inNewHalf_X1_cellOf : GoodIn wsX0_inNewHalf wsX1_cellOf := goodIn_r _ [10, 11, 3, 12, 13, 14, 15, 16, 9, 17, 18, 2, 4, 5, 26, 27, 28] (by decide +kernel) (by decide +kernel)
set_option maxRecDepth 20000 in
theorem gX0_inNewHalf_X1_cellOf : GoodIn wsX0_inNewHalf (wsV RX0 51 RX1 yX1_cellOf wsX1_cellOf) := goodIn_app (goodIn_of _ (by decide +kernel)) ggX0_inNewHalf_X1_cellOf
set_option maxRecDepth 20000 in
theorem ggX0_inNewHalf_X3_content : GoodIn wsX0_inNewHalf wsX3_content := goodIn_r _ [20] (by decide +kernel) (by decide +kernel)
set_option maxRecDepth 20000 in
theorem gX0_inNewHalf_X3_content_n77 : GoodIn wsX0_inNewHalf (wsX3_content) := ggX0_inNewHalf_X3_content
theorem dX0_inNewHalf_0 : decode cX0_inNewHalf 0 = .ok (.lload_n 2, 1) := by decide +kernel
theorem dX0_inNewHalf_1 : decode cX0_inNewHalf 1 = .ok (.invokestatic 47, 3) := by decide +kernel
theorem dX0_inNewHalf_4 : decode cX0_inNewHalf 4 = .ok (.iconst 2, 1) := by decide +kernel
theorem dX0_inNewHalf_5 : decode cX0_inNewHalf 5 = .ok (.if_icmp .eq 5, 3) := by decide +kernel
theorem dX0_inNewHalf_8 : decode cX0_inNewHalf 8 = .ok (.lload_n 2, 1) := by decide +kernel
theorem dX0_inNewHalf_9 : decode cX0_inNewHalf 9 = .ok (.lreturn, 1) := by decide +kernel
theorem dX0_inNewHalf_10 : decode cX0_inNewHalf 10 = .ok (.iconst 2, 1) := by decide +kernel
theorem dX0_inNewHalf_11 : decode cX0_inNewHalf 11 = .ok (.aload_n 0, 1) := by decide +kernel
theorem dX0_inNewHalf_12 : decode cX0_inNewHalf 12 = .ok (.getfield 21, 3) := by decide +kernel
theorem dX0_inNewHalf_15 : decode cX0_inNewHalf 15 = .ok (.aload_n 1, 1) := by decide +kernel
theorem dX0_inNewHalf_16 : decode cX0_inNewHalf 16 = .ok (.lload_n 2, 1) := by decide +kernel
theorem dX0_inNewHalf_17 : decode cX0_inNewHalf 17 = .ok (.invokevirtual 51, 3) := by decide +kernel
theorem dX0_inNewHalf_20 : decode cX0_inNewHalf 20 = .ok (.iaload, 1) := by decide +kernel
theorem dX0_inNewHalf_21 : decode cX0_inNewHalf 21 = .ok (.i2l, 1) := by decide +kernel
theorem dX0_inNewHalf_22 : decode cX0_inNewHalf 22 = .ok (.invokestatic 77, 3) := by decide +kernel
theorem dX0_inNewHalf_25 : decode cX0_inNewHalf 25 = .ok (.lreturn, 1) := by decide +kernel
theorem dX1_init_0 : decode cX1_init 0 = .ok (.aload_n 0, 1) := by decide +kernel
theorem dX1_init_1 : decode cX1_init 1 = .ok (.invokespecial 3, 3) := by decide +kernel
theorem dX1_init_4 : decode cX1_init 4 = .ok (.aload_n 0, 1) := by decide +kernel
theorem dX1_init_5 : decode cX1_init 5 = .ok (.bipush 120, 2) := by decide +kernel
theorem dX1_init_7 : decode cX1_init 7 = .ok (.newarray .int, 2) := by decide +kernel
theorem dX1_init_9 : decode cX1_init 9 = .ok (.putfield 9, 3) := by decide +kernel
theorem dX1_init_12 : decode cX1_init 12 = .ok (.aload_n 0, 1) := by decide +kernel
theorem dX1_init_13 : decode cX1_init 13 = .ok (.bipush 120, 2) := by decide +kernel
theorem dX1_init_15 : decode cX1_init 15 = .ok (.newarray .long, 2) := by decide +kernel
theorem dX1_init_17 : decode cX1_init 17 = .ok (.putfield 15, 3) := by decide +kernel
theorem dX1_init_20 : decode cX1_init 20 = .ok (.aload_n 0, 1) := by decide +kernel
theorem dX1_init_21 : decode cX1_init 21 = .ok (.iconst 0, 1) := by decide +kernel
theorem dX1_init_22 : decode cX1_init 22 = .ok (.putfield 19, 3) := by decide +kernel
theorem dX1_init_25 : decode cX1_init 25 = .ok (.return_, 1) := by decide +kernel
theorem dX1_clear_0 : decode cX1_clear 0 = .ok (.aload_n 0, 1) := by decide +kernel
theorem dX1_clear_1 : decode cX1_clear 1 = .ok (.iconst 0, 1) := by decide +kernel
theorem dX1_clear_2 : decode cX1_clear 2 = .ok (.putfield 19, 3) := by decide +kernel
theorem dX1_clear_5 : decode cX1_clear 5 = .ok (.return_, 1) := by decide +kernel
theorem dX1_codeAt_0 : decode cX1_codeAt 0 = .ok (.iload_n 1, 1) := by decide +kernel
theorem dX1_codeAt_1 : decode cX1_codeAt 1 = .ok (.ifCond .lt 18, 3) := by decide +kernel
theorem dX1_codeAt_4 : decode cX1_codeAt 4 = .ok (.iload_n 1, 1) := by decide +kernel
theorem dX1_codeAt_5 : decode cX1_codeAt 5 = .ok (.bipush 120, 2) := by decide +kernel
theorem dX1_codeAt_7 : decode cX1_codeAt 7 = .ok (.if_icmp .ge 12, 3) := by decide +kernel
theorem dX1_codeAt_10 : decode cX1_codeAt 10 = .ok (.aload_n 0, 1) := by decide +kernel
theorem dX1_codeAt_11 : decode cX1_codeAt 11 = .ok (.getfield 9, 3) := by decide +kernel
theorem dX1_codeAt_14 : decode cX1_codeAt 14 = .ok (.iload_n 1, 1) := by decide +kernel
theorem dX1_codeAt_15 : decode cX1_codeAt 15 = .ok (.iaload, 1) := by decide +kernel
theorem dX1_codeAt_16 : decode cX1_codeAt 16 = .ok (.goto 4, 3) := by decide +kernel
theorem dX1_codeAt_19 : decode cX1_codeAt 19 = .ok (.iconst 1, 1) := by decide +kernel
theorem dX1_codeAt_20 : decode cX1_codeAt 20 = .ok (.ireturn, 1) := by decide +kernel
theorem dX1_contentAt_0 : decode cX1_contentAt 0 = .ok (.iload_n 1, 1) := by decide +kernel
theorem dX1_contentAt_1 : decode cX1_contentAt 1 = .ok (.ifCond .lt 18, 3) := by decide +kernel
theorem dX1_contentAt_4 : decode cX1_contentAt 4 = .ok (.iload_n 1, 1) := by decide +kernel
theorem dX1_contentAt_5 : decode cX1_contentAt 5 = .ok (.bipush 120, 2) := by decide +kernel
theorem dX1_contentAt_7 : decode cX1_contentAt 7 = .ok (.if_icmp .ge 12, 3) := by decide +kernel
theorem dX1_contentAt_10 : decode cX1_contentAt 10 = .ok (.aload_n 0, 1) := by decide +kernel
theorem dX1_contentAt_11 : decode cX1_contentAt 11 = .ok (.getfield 15, 3) := by decide +kernel
theorem dX1_contentAt_14 : decode cX1_contentAt 14 = .ok (.iload_n 1, 1) := by decide +kernel
theorem dX1_contentAt_15 : decode cX1_contentAt 15 = .ok (.laload, 1) := by decide +kernel
theorem dX1_contentAt_16 : decode cX1_contentAt 16 = .ok (.goto 4, 3) := by decide +kernel
theorem dX1_contentAt_19 : decode cX1_contentAt 19 = .ok (.lconst 0, 1) := by decide +kernel
theorem dX1_contentAt_20 : decode cX1_contentAt 20 = .ok (.lreturn, 1) := by decide +kernel
theorem dX1_setContent_0 : decode cX1_setContent 0 = .ok (.iload_n 1, 1) := by decide +kernel
theorem dX1_setContent_1 : decode cX1_setContent 1 = .ok (.ifCond .lt 16, 3) := by decide +kernel
theorem dX1_setContent_4 : decode cX1_setContent 4 = .ok (.iload_n 1, 1) := by decide +kernel
theorem dX1_setContent_5 : decode cX1_setContent 5 = .ok (.bipush 120, 2) := by decide +kernel
theorem dX1_setContent_7 : decode cX1_setContent 7 = .ok (.if_icmp .ge 10, 3) := by decide +kernel
theorem dX1_setContent_10 : decode cX1_setContent 10 = .ok (.aload_n 0, 1) := by decide +kernel
theorem dX1_setContent_11 : decode cX1_setContent 11 = .ok (.getfield 15, 3) := by decide +kernel
theorem dX1_setContent_14 : decode cX1_setContent 14 = .ok (.iload_n 1, 1) := by decide +kernel
theorem dX1_setContent_15 : decode cX1_setContent 15 = .ok (.lload_n 2, 1) := by decide +kernel
theorem dX1_setContent_16 : decode cX1_setContent 16 = .ok (.lastore, 1) := by decide +kernel
theorem dX1_setContent_17 : decode cX1_setContent 17 = .ok (.return_, 1) := by decide +kernel
theorem dX1_take_0 : decode cX1_take 0 = .ok (.aload_n 0, 1) := by decide +kernel
theorem dX1_take_1 : decode cX1_take 1 = .ok (.getfield 19, 3) := by decide +kernel
theorem dX1_take_4 : decode cX1_take 4 = .ok (.istore 4, 2) := by decide +kernel
theorem dX1_take_6 : decode cX1_take 6 = .ok (.iload 4, 2) := by decide +kernel
theorem dX1_take_8 : decode cX1_take 8 = .ok (.ifCond .lt 34, 3) := by decide +kernel
theorem dX1_take_11 : decode cX1_take 11 = .ok (.iload 4, 2) := by decide +kernel
theorem dX1_take_13 : decode cX1_take 13 = .ok (.bipush 120, 2) := by decide +kernel
theorem dX1_take_15 : decode cX1_take 15 = .ok (.if_icmp .ge 27, 3) := by decide +kernel
theorem dX1_take_18 : decode cX1_take 18 = .ok (.aload_n 0, 1) := by decide +kernel
theorem dX1_take_19 : decode cX1_take 19 = .ok (.getfield 9, 3) := by decide +kernel
theorem dX1_take_22 : decode cX1_take 22 = .ok (.iload 4, 2) := by decide +kernel
theorem dX1_take_24 : decode cX1_take 24 = .ok (.iload_n 1, 1) := by decide +kernel
theorem dX1_take_25 : decode cX1_take 25 = .ok (.iastore, 1) := by decide +kernel
theorem dX1_take_26 : decode cX1_take 26 = .ok (.aload_n 0, 1) := by decide +kernel
theorem dX1_take_27 : decode cX1_take 27 = .ok (.getfield 15, 3) := by decide +kernel
theorem dX1_take_30 : decode cX1_take 30 = .ok (.iload 4, 2) := by decide +kernel
theorem dX1_take_32 : decode cX1_take 32 = .ok (.lload_n 2, 1) := by decide +kernel
theorem dX1_take_33 : decode cX1_take 33 = .ok (.lastore, 1) := by decide +kernel
theorem dX1_take_34 : decode cX1_take 34 = .ok (.aload_n 0, 1) := by decide +kernel
theorem dX1_take_35 : decode cX1_take 35 = .ok (.iload 4, 2) := by decide +kernel
theorem dX1_take_37 : decode cX1_take 37 = .ok (.iconst 1, 1) := by decide +kernel
theorem dX1_take_38 : decode cX1_take 38 = .ok (.iadd, 1) := by decide +kernel
theorem dX1_take_39 : decode cX1_take 39 = .ok (.putfield 19, 3) := by decide +kernel
theorem dX1_take_42 : decode cX1_take 42 = .ok (.iload 4, 2) := by decide +kernel
theorem dX1_take_44 : decode cX1_take 44 = .ok (.ireturn, 1) := by decide +kernel
set_option maxRecDepth 20000 in
theorem ggX1_takeTwo_X1_take : GoodIn wsX1_takeTwo wsX1_take := goodIn_r _ [5, 6, 7, 8, 9, 10, 11] (by decide +kernel) (by decide +kernel)
set_option maxRecDepth 20000 in
theorem gX1_takeTwo_X1_take : GoodIn wsX1_takeTwo (wsV RX1 23 RX1 yX1_take wsX1_take) := goodIn_app (goodIn_of _ (by decide +kernel)) ggX1_takeTwo_X1_take
theorem dX1_takeTwo_0 : decode cX1_takeTwo 0 = .ok (.aload_n 0, 1) := by decide +kernel
theorem dX1_takeTwo_1 : decode cX1_takeTwo 1 = .ok (.iconst 2, 1) := by decide +kernel
theorem dX1_takeTwo_2 : decode cX1_takeTwo 2 = .ok (.lload_n 1, 1) := by decide +kernel
theorem dX1_takeTwo_3 : decode cX1_takeTwo 3 = .ok (.invokevirtual 23, 3) := by decide +kernel
theorem dX1_takeTwo_6 : decode cX1_takeTwo 6 = .ok (.istore 5, 2) := by decide +kernel
theorem dX1_takeTwo_8 : decode cX1_takeTwo 8 = .ok (.aload_n 0, 1) := by decide +kernel
theorem dX1_takeTwo_9 : decode cX1_takeTwo 9 = .ok (.iconst 3, 1) := by decide +kernel
theorem dX1_takeTwo_10 : decode cX1_takeTwo 10 = .ok (.lload_n 3, 1) := by decide +kernel
theorem dX1_takeTwo_11 : decode cX1_takeTwo 11 = .ok (.invokevirtual 23, 3) := by decide +kernel
theorem dX1_takeTwo_14 : decode cX1_takeTwo 14 = .ok (.pop, 1) := by decide +kernel
theorem dX1_takeTwo_15 : decode cX1_takeTwo 15 = .ok (.iload 5, 2) := by decide +kernel
theorem dX1_takeTwo_17 : decode cX1_takeTwo 17 = .ok (.ireturn, 1) := by decide +kernel
set_option maxRecDepth 20000 in
theorem ggX1_cellOf_X3_placeOf : GoodIn wsX1_cellOf wsX3_placeOf := goodIn_r _ [3, 4] (by decide +kernel) (by decide +kernel)
set_option maxRecDepth 20000 in
theorem gX1_cellOf_X3_placeOf_n27 : GoodIn wsX1_cellOf (wsX3_placeOf) := ggX1_cellOf_X3_placeOf
set_option maxRecDepth 20000 in
theorem ggX1_cellOf_X1_contentAt : GoodIn wsX1_cellOf wsX1_contentAt := goodIn_r _ [9, 10, 14, 15, 16] (by decide +kernel) (by decide +kernel)
set_option maxRecDepth 20000 in
theorem gX1_cellOf_X1_contentAt : GoodIn wsX1_cellOf (wsV RX1 31 RX1 yX1_contentAt wsX1_contentAt) := goodIn_app (goodIn_of _ (by decide +kernel)) ggX1_cellOf_X1_contentAt
set_option maxRecDepth 20000 in
theorem ggX1_cellOf_X3_kindOf : GoodIn wsX1_cellOf wsX3_kindOf := goodIn_r _ [12, 13] (by decide +kernel) (by decide +kernel)
set_option maxRecDepth 20000 in
theorem gX1_cellOf_X3_kindOf_n35 : GoodIn wsX1_cellOf (wsX3_kindOf) := ggX1_cellOf_X3_kindOf
theorem dX1_cellOf_0 : decode cX1_cellOf 0 = .ok (.lload_n 1, 1) := by decide +kernel
theorem dX1_cellOf_1 : decode cX1_cellOf 1 = .ok (.invokestatic 27, 3) := by decide +kernel
theorem dX1_cellOf_4 : decode cX1_cellOf 4 = .ok (.istore_n 3, 1) := by decide +kernel
theorem dX1_cellOf_5 : decode cX1_cellOf 5 = .ok (.aload_n 0, 1) := by decide +kernel
theorem dX1_cellOf_6 : decode cX1_cellOf 6 = .ok (.iload_n 3, 1) := by decide +kernel
theorem dX1_cellOf_7 : decode cX1_cellOf 7 = .ok (.invokevirtual 31, 3) := by decide +kernel
theorem dX1_cellOf_10 : decode cX1_cellOf 10 = .ok (.lstore 4, 2) := by decide +kernel
theorem dX1_cellOf_12 : decode cX1_cellOf 12 = .ok (.lload 4, 2) := by decide +kernel
theorem dX1_cellOf_14 : decode cX1_cellOf 14 = .ok (.invokestatic 35, 3) := by decide +kernel
theorem dX1_cellOf_17 : decode cX1_cellOf 17 = .ok (.iconst 3, 1) := by decide +kernel
theorem dX1_cellOf_18 : decode cX1_cellOf 18 = .ok (.if_icmp .ne 11, 3) := by decide +kernel
theorem dX1_cellOf_21 : decode cX1_cellOf 21 = .ok (.lload 4, 2) := by decide +kernel
theorem dX1_cellOf_23 : decode cX1_cellOf 23 = .ok (.invokestatic 27, 3) := by decide +kernel
theorem dX1_cellOf_26 : decode cX1_cellOf 26 = .ok (.goto 4, 3) := by decide +kernel
theorem dX1_cellOf_29 : decode cX1_cellOf 29 = .ok (.iload_n 3, 1) := by decide +kernel
theorem dX1_cellOf_30 : decode cX1_cellOf 30 = .ok (.ireturn, 1) := by decide +kernel
set_option maxRecDepth 20000 in
theorem ggX1_restOf_X1_codeAt : GoodIn wsX1_restOf wsX1_codeAt := goodIn_r _ [5, 6, 15, 16, 17] (by decide +kernel) (by decide +kernel)
set_option maxRecDepth 20000 in
theorem gX1_restOf_X1_codeAt : GoodIn wsX1_restOf (wsV RX1 38 RX1 yX1_codeAt wsX1_codeAt) := goodIn_app (goodIn_of _ (by decide +kernel)) ggX1_restOf_X1_codeAt
set_option maxRecDepth 20000 in
theorem ggX1_restOf_X3_content : GoodIn wsX1_restOf wsX3_content := goodIn_r _ [9] (by decide +kernel) (by decide +kernel)
set_option maxRecDepth 20000 in
theorem gX1_restOf_X3_content_n42 : GoodIn wsX1_restOf (wsX3_content) := ggX1_restOf_X3_content
set_option maxRecDepth 20000 in
theorem ggX1_restOf_X1_contentAt : GoodIn wsX1_restOf wsX1_contentAt := goodIn_r _ [13, 14, 15, 16, 17] (by decide +kernel) (by decide +kernel)
set_option maxRecDepth 20000 in
theorem gX1_restOf_X1_contentAt : GoodIn wsX1_restOf (wsV RX1 31 RX1 yX1_contentAt wsX1_contentAt) := goodIn_app (goodIn_of _ (by decide +kernel)) ggX1_restOf_X1_contentAt
theorem dX1_restOf_0 : decode cX1_restOf 0 = .ok (.aload_n 0, 1) := by decide +kernel
theorem dX1_restOf_1 : decode cX1_restOf 1 = .ok (.iload_n 1, 1) := by decide +kernel
theorem dX1_restOf_2 : decode cX1_restOf 2 = .ok (.invokevirtual 38, 3) := by decide +kernel
theorem dX1_restOf_5 : decode cX1_restOf 5 = .ok (.lookupswitch 44 #[(0, 27), (2, 36)], 27) := by decide +kernel
theorem dX1_restOf_32 : decode cX1_restOf 32 = .ok (.iconst 2, 1) := by decide +kernel
theorem dX1_restOf_33 : decode cX1_restOf 33 = .ok (.iload_n 1, 1) := by decide +kernel
theorem dX1_restOf_34 : decode cX1_restOf 34 = .ok (.iconst 1, 1) := by decide +kernel
theorem dX1_restOf_35 : decode cX1_restOf 35 = .ok (.iadd, 1) := by decide +kernel
theorem dX1_restOf_36 : decode cX1_restOf 36 = .ok (.i2l, 1) := by decide +kernel
theorem dX1_restOf_37 : decode cX1_restOf 37 = .ok (.invokestatic 42, 3) := by decide +kernel
theorem dX1_restOf_40 : decode cX1_restOf 40 = .ok (.lreturn, 1) := by decide +kernel
theorem dX1_restOf_41 : decode cX1_restOf 41 = .ok (.aload_n 0, 1) := by decide +kernel
theorem dX1_restOf_42 : decode cX1_restOf 42 = .ok (.iload_n 1, 1) := by decide +kernel
theorem dX1_restOf_43 : decode cX1_restOf 43 = .ok (.iconst 1, 1) := by decide +kernel
theorem dX1_restOf_44 : decode cX1_restOf 44 = .ok (.iadd, 1) := by decide +kernel
theorem dX1_restOf_45 : decode cX1_restOf 45 = .ok (.invokevirtual 31, 3) := by decide +kernel
theorem dX1_restOf_48 : decode cX1_restOf 48 = .ok (.lreturn, 1) := by decide +kernel
theorem dX1_restOf_49 : decode cX1_restOf 49 = .ok (.lconst 0, 1) := by decide +kernel
theorem dX1_restOf_50 : decode cX1_restOf 50 = .ok (.lreturn, 1) := by decide +kernel
set_option maxRecDepth 20000 in
theorem ggX1_countMoved_X1_contentAt : GoodIn wsX1_countMoved wsX1_contentAt := goodIn_r _ [6, 7, 12, 13, 14] (by decide +kernel) (by decide +kernel)
set_option maxRecDepth 20000 in
theorem gX1_countMoved_X1_contentAt : GoodIn wsX1_countMoved (wsV RX1 31 RX1 yX1_contentAt wsX1_contentAt) := goodIn_app (goodIn_of _ (by decide +kernel)) ggX1_countMoved_X1_contentAt
set_option maxRecDepth 20000 in
theorem ggX1_countMoved_X3_kindOf : GoodIn wsX1_countMoved wsX3_kindOf := goodIn_r _ [10, 11] (by decide +kernel) (by decide +kernel)
set_option maxRecDepth 20000 in
theorem gX1_countMoved_X3_kindOf_n35 : GoodIn wsX1_countMoved (wsX3_kindOf) := ggX1_countMoved_X3_kindOf
theorem dX1_countMoved_0 : decode cX1_countMoved 0 = .ok (.iconst 0, 1) := by decide +kernel
theorem dX1_countMoved_1 : decode cX1_countMoved 1 = .ok (.istore_n 1, 1) := by decide +kernel
theorem dX1_countMoved_2 : decode cX1_countMoved 2 = .ok (.iconst 0, 1) := by decide +kernel
theorem dX1_countMoved_3 : decode cX1_countMoved 3 = .ok (.istore_n 2, 1) := by decide +kernel
theorem dX1_countMoved_4 : decode cX1_countMoved 4 = .ok (.iload_n 2, 1) := by decide +kernel
theorem dX1_countMoved_5 : decode cX1_countMoved 5 = .ok (.aload_n 0, 1) := by decide +kernel
theorem dX1_countMoved_6 : decode cX1_countMoved 6 = .ok (.getfield 19, 3) := by decide +kernel
theorem dX1_countMoved_9 : decode cX1_countMoved 9 = .ok (.if_icmp .ge 24, 3) := by decide +kernel
theorem dX1_countMoved_12 : decode cX1_countMoved 12 = .ok (.aload_n 0, 1) := by decide +kernel
theorem dX1_countMoved_13 : decode cX1_countMoved 13 = .ok (.iload_n 2, 1) := by decide +kernel
theorem dX1_countMoved_14 : decode cX1_countMoved 14 = .ok (.invokevirtual 31, 3) := by decide +kernel
theorem dX1_countMoved_17 : decode cX1_countMoved 17 = .ok (.invokestatic 35, 3) := by decide +kernel
theorem dX1_countMoved_20 : decode cX1_countMoved 20 = .ok (.iconst 3, 1) := by decide +kernel
theorem dX1_countMoved_21 : decode cX1_countMoved 21 = .ok (.if_icmp .ne 6, 3) := by decide +kernel
theorem dX1_countMoved_24 : decode cX1_countMoved 24 = .ok (.iinc 1 1, 3) := by decide +kernel
theorem dX1_countMoved_27 : decode cX1_countMoved 27 = .ok (.iinc 2 1, 3) := by decide +kernel
theorem dX1_countMoved_30 : decode cX1_countMoved 30 = .ok (.goto (-26), 3) := by decide +kernel
theorem dX1_countMoved_33 : decode cX1_countMoved 33 = .ok (.iload_n 1, 1) := by decide +kernel
theorem dX1_countMoved_34 : decode cX1_countMoved 34 = .ok (.ireturn, 1) := by decide +kernel
theorem dX2_init_0 : decode cX2_init 0 = .ok (.aload_n 0, 1) := by decide +kernel
theorem dX2_init_1 : decode cX2_init 1 = .ok (.invokespecial 3, 3) := by decide +kernel
theorem dX2_init_4 : decode cX2_init 4 = .ok (.aload_n 0, 1) := by decide +kernel
theorem dX2_init_5 : decode cX2_init 5 = .ok (.bipush 120, 2) := by decide +kernel
theorem dX2_init_7 : decode cX2_init 7 = .ok (.newarray .int, 2) := by decide +kernel
theorem dX2_init_9 : decode cX2_init 9 = .ok (.putfield 9, 3) := by decide +kernel
theorem dX2_init_12 : decode cX2_init 12 = .ok (.aload_n 0, 1) := by decide +kernel
theorem dX2_init_13 : decode cX2_init 13 = .ok (.bipush 120, 2) := by decide +kernel
theorem dX2_init_15 : decode cX2_init 15 = .ok (.newarray .int, 2) := by decide +kernel
theorem dX2_init_17 : decode cX2_init 17 = .ok (.putfield 15, 3) := by decide +kernel
theorem dX2_init_20 : decode cX2_init 20 = .ok (.aload_n 0, 1) := by decide +kernel
theorem dX2_init_21 : decode cX2_init 21 = .ok (.bipush 120, 2) := by decide +kernel
theorem dX2_init_23 : decode cX2_init 23 = .ok (.newarray .int, 2) := by decide +kernel
theorem dX2_init_25 : decode cX2_init 25 = .ok (.putfield 18, 3) := by decide +kernel
theorem dX2_init_28 : decode cX2_init 28 = .ok (.aload_n 0, 1) := by decide +kernel
theorem dX2_init_29 : decode cX2_init 29 = .ok (.iconst 0, 1) := by decide +kernel
theorem dX2_init_30 : decode cX2_init 30 = .ok (.putfield 21, 3) := by decide +kernel
theorem dX2_init_33 : decode cX2_init 33 = .ok (.return_, 1) := by decide +kernel
set_option maxRecDepth 20000 in
theorem ggX3_init_X0_init : GoodIn wsX3_init wsX0_init := goodIn_r _ [23, 24, 2, 3, 14, 25, 26, 27, 28, 29, 50, 51, 52, 53, 54] (by decide +kernel) (by decide +kernel)
set_option maxRecDepth 20000 in
theorem gX3_init_X0_init_n15 : GoodIn wsX3_init (wsX0_init) := ggX3_init_X0_init
set_option maxRecDepth 20000 in
theorem ggX3_init_X2_init : GoodIn wsX3_init wsX2_init := goodIn_r _ [31, 32, 2, 3, 14, 33, 34, 35, 36, 55, 56, 57, 58] (by decide +kernel) (by decide +kernel)
set_option maxRecDepth 20000 in
theorem gX3_init_X2_init_n22 : GoodIn wsX3_init (wsX2_init) := ggX3_init_X2_init
set_option maxRecDepth 20000 in
theorem ggX3_init_X1_init : GoodIn wsX3_init wsX1_init := goodIn_r _ [38, 39, 2, 3, 14, 40, 4, 41, 42, 59, 60, 61] (by decide +kernel) (by decide +kernel)
set_option maxRecDepth 20000 in
theorem gX3_init_X1_init_n33 : GoodIn wsX3_init (wsX1_init) := ggX3_init_X1_init
theorem dX3_init_0 : decode cX3_init 0 = .ok (.aload_n 0, 1) := by decide +kernel
theorem dX3_init_1 : decode cX3_init 1 = .ok (.invokespecial 3, 3) := by decide +kernel
theorem dX3_init_4 : decode cX3_init 4 = .ok (.aload_n 0, 1) := by decide +kernel
theorem dX3_init_5 : decode cX3_init 5 = .ok (.bipush 10, 2) := by decide +kernel
theorem dX3_init_7 : decode cX3_init 7 = .ok (.newarray .long, 2) := by decide +kernel
theorem dX3_init_9 : decode cX3_init 9 = .ok (.putfield 9, 3) := by decide +kernel
theorem dX3_init_12 : decode cX3_init 12 = .ok (.aload_n 0, 1) := by decide +kernel
theorem dX3_init_13 : decode cX3_init 13 = .ok (.new 13, 3) := by decide +kernel
theorem dX3_init_16 : decode cX3_init 16 = .ok (.dup, 1) := by decide +kernel
theorem dX3_init_17 : decode cX3_init 17 = .ok (.invokespecial 15, 3) := by decide +kernel
theorem dX3_init_20 : decode cX3_init 20 = .ok (.putfield 16, 3) := by decide +kernel
theorem dX3_init_23 : decode cX3_init 23 = .ok (.aload_n 0, 1) := by decide +kernel
theorem dX3_init_24 : decode cX3_init 24 = .ok (.new 20, 3) := by decide +kernel
theorem dX3_init_27 : decode cX3_init 27 = .ok (.dup, 1) := by decide +kernel
theorem dX3_init_28 : decode cX3_init 28 = .ok (.invokespecial 22, 3) := by decide +kernel
theorem dX3_init_31 : decode cX3_init 31 = .ok (.putfield 23, 3) := by decide +kernel
theorem dX3_init_34 : decode cX3_init 34 = .ok (.aload_n 0, 1) := by decide +kernel
theorem dX3_init_35 : decode cX3_init 35 = .ok (.bipush 120, 2) := by decide +kernel
theorem dX3_init_37 : decode cX3_init 37 = .ok (.newarray .int, 2) := by decide +kernel
theorem dX3_init_39 : decode cX3_init 39 = .ok (.putfield 27, 3) := by decide +kernel
theorem dX3_init_42 : decode cX3_init 42 = .ok (.aload_n 0, 1) := by decide +kernel
theorem dX3_init_43 : decode cX3_init 43 = .ok (.new 31, 3) := by decide +kernel
theorem dX3_init_46 : decode cX3_init 46 = .ok (.dup, 1) := by decide +kernel
theorem dX3_init_47 : decode cX3_init 47 = .ok (.invokespecial 33, 3) := by decide +kernel
theorem dX3_init_50 : decode cX3_init 50 = .ok (.putfield 34, 3) := by decide +kernel
theorem dX3_init_53 : decode cX3_init 53 = .ok (.aload_n 0, 1) := by decide +kernel
theorem dX3_init_54 : decode cX3_init 54 = .ok (.new 31, 3) := by decide +kernel
theorem dX3_init_57 : decode cX3_init 57 = .ok (.dup, 1) := by decide +kernel
theorem dX3_init_58 : decode cX3_init 58 = .ok (.invokespecial 33, 3) := by decide +kernel
theorem dX3_init_61 : decode cX3_init 61 = .ok (.putfield 38, 3) := by decide +kernel
theorem dX3_init_64 : decode cX3_init 64 = .ok (.aload_n 0, 1) := by decide +kernel
theorem dX3_init_65 : decode cX3_init 65 = .ok (.iconst 0, 1) := by decide +kernel
theorem dX3_init_66 : decode cX3_init 66 = .ok (.putfield 41, 3) := by decide +kernel
theorem dX3_init_69 : decode cX3_init 69 = .ok (.return_, 1) := by decide +kernel
set_option maxRecDepth 20000 in
theorem ggX3_number_X3_checkRoot : GoodIn wsX3_number wsX3_checkRoot := goodIn_ca (goodIn_r _ [7, 8, 9] (by decide +kernel) (by decide +kernel)) (goodIn_sub (fun _ h => List.mem_cons_of_mem _ (List.mem_append_right _ h)) (by decide +kernel))
set_option maxRecDepth 20000 in
theorem gX3_number_X3_checkRoot : GoodIn wsX3_number (va_wsS RX3 45 yX3_checkRoot wsX3_checkRoot) := goodIn_app (goodIn_of _ (by decide +kernel)) ggX3_number_X3_checkRoot
theorem dX3_number_0 : decode cX3_number 0 = .ok (.iload_n 1, 1) := by decide +kernel
theorem dX3_number_1 : decode cX3_number 1 = .ok (.invokestatic 45, 3) := by decide +kernel
theorem dX3_number_4 : decode cX3_number 4 = .ok (.lload_n 2, 1) := by decide +kernel
theorem dX3_number_5 : decode cX3_number 5 = .ok (.ldc2_w 49, 3) := by decide +kernel
theorem dX3_number_8 : decode cX3_number 8 = .ok (.lcmp, 1) := by decide +kernel
theorem dX3_number_9 : decode cX3_number 9 = .ok (.ifCond .lt 11, 3) := by decide +kernel
theorem dX3_number_12 : decode cX3_number 12 = .ok (.lload_n 2, 1) := by decide +kernel
theorem dX3_number_13 : decode cX3_number 13 = .ok (.ldc2_w 51, 3) := by decide +kernel
theorem dX3_number_16 : decode cX3_number 16 = .ok (.lcmp, 1) := by decide +kernel
theorem dX3_number_17 : decode cX3_number 17 = .ok (.ifCond .le 13, 3) := by decide +kernel
theorem dX3_number_20 : decode cX3_number 20 = .ok (.new 53, 3) := by decide +kernel
theorem dX3_number_23 : decode cX3_number 23 = .ok (.dup, 1) := by decide +kernel
theorem dX3_number_24 : decode cX3_number 24 = .ok (.ldc 55, 2) := by decide +kernel
theorem dX3_number_26 : decode cX3_number 26 = .ok (.invokespecial 57, 3) := by decide +kernel
theorem dX3_number_29 : decode cX3_number 29 = .ok (.athrow, 1) := by decide +kernel
theorem dX3_number_30 : decode cX3_number 30 = .ok (.aload_n 0, 1) := by decide +kernel
theorem dX3_number_31 : decode cX3_number 31 = .ok (.getfield 9, 3) := by decide +kernel
theorem dX3_number_34 : decode cX3_number 34 = .ok (.iload_n 1, 1) := by decide +kernel
theorem dX3_number_35 : decode cX3_number 35 = .ok (.iconst 1, 1) := by decide +kernel
theorem dX3_number_36 : decode cX3_number 36 = .ok (.lload_n 2, 1) := by decide +kernel
theorem dX3_number_37 : decode cX3_number 37 = .ok (.invokestatic 60, 3) := by decide +kernel
theorem dX3_number_40 : decode cX3_number 40 = .ok (.lastore, 1) := by decide +kernel
theorem dX3_number_41 : decode cX3_number 41 = .ok (.return_, 1) := by decide +kernel
set_option maxRecDepth 20000 in
theorem ggX3_collect_X3_makeCollection : GoodIn wsX3_collect wsX3_makeCollection := goodIn_r _ [6, 7, 8, 1, 9, 10, 11, 12, 13, 14, 15, 16, 17, 18, 19, 20, 21, 22, 23, 24, 25, 26, 27, 28, 29, 30, 31, 32, 33, 34, 35, 5, 36, 37, 38, 39, 40, 41, 42, 43, 44, 45, 46, 47, 48, 49, 50, 51, 52, 53, 54, 55, 56, 57, 58, 59, 60, 61, 62, 63, 64, 65, 66, 67, 68, 69, 70, 71, 72, 73, 74, 75, 76, 77, 78, 79, 80, 81, 82, 83, 84, 85, 86, 87, 88, 89, 90, 91, 92, 93, 94, 95, 96, 97, 98, 99, 100, 101, 102, 103, 104, 105] (by decide +kernel) (by decide +kernel)
set_option maxRecDepth 20000 in
theorem gX3_collect_X3_makeCollection : GoodIn wsX3_collect (wsV RX3 138 RX3 yX3_makeCollection wsX3_makeCollection) := goodIn_app (goodIn_of _ (by decide +kernel)) ggX3_collect_X3_makeCollection
theorem dX3_collect_0 : decode cX3_collect 0 = .ok (.aload_n 0, 1) := by decide +kernel
theorem dX3_collect_1 : decode cX3_collect 1 = .ok (.invokevirtual 138, 3) := by decide +kernel
theorem dX3_collect_4 : decode cX3_collect 4 = .ok (.aload_n 0, 1) := by decide +kernel
theorem dX3_collect_5 : decode cX3_collect 5 = .ok (.getfield 34, 3) := by decide +kernel
theorem dX3_collect_8 : decode cX3_collect 8 = .ok (.getfield 77, 3) := by decide +kernel
theorem dX3_collect_11 : decode cX3_collect 11 = .ok (.ireturn, 1) := by decide +kernel
set_option maxRecDepth 20000 in
theorem ggX3_about_X1_countMoved : GoodIn wsX3_about wsX1_countMoved := goodIn_r _ [7, 8, 9, 10, 11, 6, 12, 13, 14, 15, 16, 17, 25, 26, 27] (by decide +kernel) (by decide +kernel)
set_option maxRecDepth 20000 in
theorem gX3_about_X1_countMoved : GoodIn wsX3_about (wsV RX3 141 RX1 yX1_countMoved wsX1_countMoved) := goodIn_app (goodIn_of _ (by decide +kernel)) ggX3_about_X1_countMoved
theorem dX3_about_0 : decode cX3_about 0 = .ok (.iload_n 1, 1) := by decide +kernel
theorem dX3_about_1 : decode cX3_about 1 = .ok (.tableswitch 48 0 2 #[27, 35, 43], 27) := by decide +kernel
theorem dX3_about_28 : decode cX3_about 28 = .ok (.aload_n 0, 1) := by decide +kernel
theorem dX3_about_29 : decode cX3_about 29 = .ok (.getfield 34, 3) := by decide +kernel
theorem dX3_about_32 : decode cX3_about 32 = .ok (.getfield 77, 3) := by decide +kernel
theorem dX3_about_35 : decode cX3_about 35 = .ok (.ireturn, 1) := by decide +kernel
theorem dX3_about_36 : decode cX3_about 36 = .ok (.aload_n 0, 1) := by decide +kernel
theorem dX3_about_37 : decode cX3_about 37 = .ok (.getfield 34, 3) := by decide +kernel
theorem dX3_about_40 : decode cX3_about 40 = .ok (.invokevirtual 141, 3) := by decide +kernel
theorem dX3_about_43 : decode cX3_about 43 = .ok (.ireturn, 1) := by decide +kernel
theorem dX3_about_44 : decode cX3_about 44 = .ok (.aload_n 0, 1) := by decide +kernel
theorem dX3_about_45 : decode cX3_about 45 = .ok (.getfield 41, 3) := by decide +kernel
theorem dX3_about_48 : decode cX3_about 48 = .ok (.ireturn, 1) := by decide +kernel
theorem dX3_about_49 : decode cX3_about 49 = .ok (.iconst (-1), 1) := by decide +kernel
theorem dX3_about_50 : decode cX3_about 50 = .ok (.ireturn, 1) := by decide +kernel
theorem dX3_content_0 : decode cX3_content 0 = .ok (.lload_n 1, 1) := by decide +kernel
theorem dX3_content_1 : decode cX3_content 1 = .ok (.iconst 2, 1) := by decide +kernel
theorem dX3_content_2 : decode cX3_content 2 = .ok (.lshl, 1) := by decide +kernel
theorem dX3_content_3 : decode cX3_content 3 = .ok (.iload_n 0, 1) := by decide +kernel
theorem dX3_content_4 : decode cX3_content 4 = .ok (.i2l, 1) := by decide +kernel
theorem dX3_content_5 : decode cX3_content 5 = .ok (.lor, 1) := by decide +kernel
theorem dX3_content_6 : decode cX3_content 6 = .ok (.lreturn, 1) := by decide +kernel
theorem dX3_kindOf_0 : decode cX3_kindOf 0 = .ok (.lload_n 0, 1) := by decide +kernel
theorem dX3_kindOf_1 : decode cX3_kindOf 1 = .ok (.ldc2_w 156, 3) := by decide +kernel
theorem dX3_kindOf_4 : decode cX3_kindOf 4 = .ok (.land, 1) := by decide +kernel
theorem dX3_kindOf_5 : decode cX3_kindOf 5 = .ok (.l2i, 1) := by decide +kernel
theorem dX3_kindOf_6 : decode cX3_kindOf 6 = .ok (.ireturn, 1) := by decide +kernel
theorem dX3_placeOf_0 : decode cX3_placeOf 0 = .ok (.lload_n 0, 1) := by decide +kernel
theorem dX3_placeOf_1 : decode cX3_placeOf 1 = .ok (.iconst 2, 1) := by decide +kernel
theorem dX3_placeOf_2 : decode cX3_placeOf 2 = .ok (.lshr, 1) := by decide +kernel
theorem dX3_placeOf_3 : decode cX3_placeOf 3 = .ok (.lstore_n 2, 1) := by decide +kernel
theorem dX3_placeOf_4 : decode cX3_placeOf 4 = .ok (.lload_n 2, 1) := by decide +kernel
theorem dX3_placeOf_5 : decode cX3_placeOf 5 = .ok (.lconst 0, 1) := by decide +kernel
theorem dX3_placeOf_6 : decode cX3_placeOf 6 = .ok (.lcmp, 1) := by decide +kernel
theorem dX3_placeOf_7 : decode cX3_placeOf 7 = .ok (.ifCond .lt 16, 3) := by decide +kernel
theorem dX3_placeOf_10 : decode cX3_placeOf 10 = .ok (.lload_n 2, 1) := by decide +kernel
theorem dX3_placeOf_11 : decode cX3_placeOf 11 = .ok (.ldc2_w 158, 3) := by decide +kernel
theorem dX3_placeOf_14 : decode cX3_placeOf 14 = .ok (.lcmp, 1) := by decide +kernel
theorem dX3_placeOf_15 : decode cX3_placeOf 15 = .ok (.ifCond .ge 8, 3) := by decide +kernel
theorem dX3_placeOf_18 : decode cX3_placeOf 18 = .ok (.lload_n 2, 1) := by decide +kernel
theorem dX3_placeOf_19 : decode cX3_placeOf 19 = .ok (.l2i, 1) := by decide +kernel
theorem dX3_placeOf_20 : decode cX3_placeOf 20 = .ok (.goto 4, 3) := by decide +kernel
theorem dX3_placeOf_23 : decode cX3_placeOf 23 = .ok (.iconst 0, 1) := by decide +kernel
theorem dX3_placeOf_24 : decode cX3_placeOf 24 = .ok (.ireturn, 1) := by decide +kernel
theorem dX3_checkRoot_0 : decode cX3_checkRoot 0 = .ok (.iload_n 0, 1) := by decide +kernel
theorem dX3_checkRoot_1 : decode cX3_checkRoot 1 = .ok (.ifCond .lt 9, 3) := by decide +kernel
theorem dX3_checkRoot_4 : decode cX3_checkRoot 4 = .ok (.iload_n 0, 1) := by decide +kernel
theorem dX3_checkRoot_5 : decode cX3_checkRoot 5 = .ok (.bipush 10, 2) := by decide +kernel
theorem dX3_checkRoot_7 : decode cX3_checkRoot 7 = .ok (.if_icmp .lt 13, 3) := by decide +kernel
theorem dX3_checkRoot_10 : decode cX3_checkRoot 10 = .ok (.new 160, 3) := by decide +kernel
theorem dX3_checkRoot_13 : decode cX3_checkRoot 13 = .ok (.dup, 1) := by decide +kernel
theorem dX3_checkRoot_14 : decode cX3_checkRoot 14 = .ok (.ldc 162, 2) := by decide +kernel
theorem dX3_checkRoot_16 : decode cX3_checkRoot 16 = .ok (.invokespecial 164, 3) := by decide +kernel
theorem dX3_checkRoot_19 : decode cX3_checkRoot 19 = .ok (.athrow, 1) := by decide +kernel
theorem dX3_checkRoot_20 : decode cX3_checkRoot 20 = .ok (.return_, 1) := by decide +kernel
set_option maxRecDepth 20000 in
theorem ggX3_makeCollection_X1_clear : GoodIn wsX3_makeCollection wsX1_clear := goodIn_r _ [10, 11, 94, 95, 96] (by decide +kernel) (by decide +kernel)
set_option maxRecDepth 20000 in
theorem gX3_makeCollection_X1_clear : GoodIn wsX3_makeCollection (wsV RX3 175 RX1 yX1_clear wsX1_clear) := goodIn_app (goodIn_of _ (by decide +kernel)) ggX3_makeCollection_X1_clear
set_option maxRecDepth 20000 in
theorem ggX3_makeCollection_X0_listReached : GoodIn wsX3_makeCollection wsX0_listReached := goodIn_r _ [16, 17, 18, 19, 20, 21, 22, 23, 24, 25, 26, 27, 28, 15, 29, 30, 31, 32, 33, 34, 35, 36, 9, 37, 38, 39, 40, 41, 42, 43, 44, 45, 46, 47, 48, 49, 50, 51, 52, 53, 54, 55, 56, 57, 97, 98, 99, 100, 101, 94, 95, 96] (by decide +kernel) (by decide +kernel)
set_option maxRecDepth 20000 in
theorem gX3_makeCollection_X0_listReached : GoodIn wsX3_makeCollection (wsV RX3 178 RX0 yX0_listReached wsX0_listReached) := goodIn_app (goodIn_of _ (by decide +kernel)) ggX3_makeCollection_X0_listReached
set_option maxRecDepth 20000 in
theorem ggX3_makeCollection_X0_layListed : GoodIn wsX3_makeCollection wsX0_layListed := goodIn_r _ [61, 17, 21, 20, 19, 62, 63, 64, 15, 65, 57, 42, 43, 9, 44, 45, 46, 47, 48, 49, 50, 51, 52, 53, 54, 55, 31, 56, 41, 30, 32, 33, 66, 67, 68, 69, 11, 34, 35, 36, 37, 38, 39, 40, 70, 71, 72, 73, 74, 97, 98, 99, 100, 101, 94, 95, 96] (by decide +kernel) (by decide +kernel)
set_option maxRecDepth 20000 in
theorem gX3_makeCollection_X0_layListed : GoodIn wsX3_makeCollection (wsV RX3 182 RX0 yX0_layListed wsX0_layListed) := goodIn_app (goodIn_of _ (by decide +kernel)) ggX3_makeCollection_X0_layListed
set_option maxRecDepth 20000 in
theorem ggX3_makeCollection_X0_tellNewPlaces : GoodIn wsX3_makeCollection wsX0_tellNewPlaces := goodIn_r _ [78, 57, 42, 43, 9, 44, 45, 79, 80, 81, 15, 82, 20, 30, 31, 32, 33, 34, 35, 36, 37, 38, 39, 40, 41, 55, 56, 83, 84, 85, 86, 94, 95, 96, 97, 98, 99, 100, 101] (by decide +kernel) (by decide +kernel)
set_option maxRecDepth 20000 in
theorem gX3_makeCollection_X0_tellNewPlaces : GoodIn wsX3_makeCollection (wsV RX3 186 RX0 yX0_tellNewPlaces wsX0_tellNewPlaces) := goodIn_app (goodIn_of _ (by decide +kernel)) ggX3_makeCollection_X0_tellNewPlaces
theorem dX3_makeCollection_0 : decode cX3_makeCollection 0 = .ok (.aload_n 0, 1) := by decide +kernel
theorem dX3_makeCollection_1 : decode cX3_makeCollection 1 = .ok (.getfield 38, 3) := by decide +kernel
theorem dX3_makeCollection_4 : decode cX3_makeCollection 4 = .ok (.invokevirtual 175, 3) := by decide +kernel
theorem dX3_makeCollection_7 : decode cX3_makeCollection 7 = .ok (.aload_n 0, 1) := by decide +kernel
theorem dX3_makeCollection_8 : decode cX3_makeCollection 8 = .ok (.getfield 16, 3) := by decide +kernel
theorem dX3_makeCollection_11 : decode cX3_makeCollection 11 = .ok (.aload_n 0, 1) := by decide +kernel
theorem dX3_makeCollection_12 : decode cX3_makeCollection 12 = .ok (.getfield 34, 3) := by decide +kernel
theorem dX3_makeCollection_15 : decode cX3_makeCollection 15 = .ok (.aload_n 0, 1) := by decide +kernel
theorem dX3_makeCollection_16 : decode cX3_makeCollection 16 = .ok (.getfield 9, 3) := by decide +kernel
theorem dX3_makeCollection_19 : decode cX3_makeCollection 19 = .ok (.invokevirtual 178, 3) := by decide +kernel
theorem dX3_makeCollection_22 : decode cX3_makeCollection 22 = .ok (.aload_n 0, 1) := by decide +kernel
theorem dX3_makeCollection_23 : decode cX3_makeCollection 23 = .ok (.getfield 16, 3) := by decide +kernel
theorem dX3_makeCollection_26 : decode cX3_makeCollection 26 = .ok (.aload_n 0, 1) := by decide +kernel
theorem dX3_makeCollection_27 : decode cX3_makeCollection 27 = .ok (.getfield 34, 3) := by decide +kernel
theorem dX3_makeCollection_30 : decode cX3_makeCollection 30 = .ok (.aload_n 0, 1) := by decide +kernel
theorem dX3_makeCollection_31 : decode cX3_makeCollection 31 = .ok (.getfield 38, 3) := by decide +kernel
theorem dX3_makeCollection_34 : decode cX3_makeCollection 34 = .ok (.iconst 1, 1) := by decide +kernel
theorem dX3_makeCollection_35 : decode cX3_makeCollection 35 = .ok (.invokevirtual 182, 3) := by decide +kernel
theorem dX3_makeCollection_38 : decode cX3_makeCollection 38 = .ok (.aload_n 0, 1) := by decide +kernel
theorem dX3_makeCollection_39 : decode cX3_makeCollection 39 = .ok (.getfield 16, 3) := by decide +kernel
theorem dX3_makeCollection_42 : decode cX3_makeCollection 42 = .ok (.aload_n 0, 1) := by decide +kernel
theorem dX3_makeCollection_43 : decode cX3_makeCollection 43 = .ok (.getfield 34, 3) := by decide +kernel
theorem dX3_makeCollection_46 : decode cX3_makeCollection 46 = .ok (.aload_n 0, 1) := by decide +kernel
theorem dX3_makeCollection_47 : decode cX3_makeCollection 47 = .ok (.getfield 38, 3) := by decide +kernel
theorem dX3_makeCollection_50 : decode cX3_makeCollection 50 = .ok (.iconst 0, 1) := by decide +kernel
theorem dX3_makeCollection_51 : decode cX3_makeCollection 51 = .ok (.invokevirtual 182, 3) := by decide +kernel
theorem dX3_makeCollection_54 : decode cX3_makeCollection 54 = .ok (.aload_n 0, 1) := by decide +kernel
theorem dX3_makeCollection_55 : decode cX3_makeCollection 55 = .ok (.getfield 16, 3) := by decide +kernel
theorem dX3_makeCollection_58 : decode cX3_makeCollection 58 = .ok (.aload_n 0, 1) := by decide +kernel
theorem dX3_makeCollection_59 : decode cX3_makeCollection 59 = .ok (.getfield 34, 3) := by decide +kernel
theorem dX3_makeCollection_62 : decode cX3_makeCollection 62 = .ok (.aload_n 0, 1) := by decide +kernel
theorem dX3_makeCollection_63 : decode cX3_makeCollection 63 = .ok (.getfield 38, 3) := by decide +kernel
theorem dX3_makeCollection_66 : decode cX3_makeCollection 66 = .ok (.aload_n 0, 1) := by decide +kernel
theorem dX3_makeCollection_67 : decode cX3_makeCollection 67 = .ok (.getfield 9, 3) := by decide +kernel
theorem dX3_makeCollection_70 : decode cX3_makeCollection 70 = .ok (.invokevirtual 186, 3) := by decide +kernel
theorem dX3_makeCollection_73 : decode cX3_makeCollection 73 = .ok (.aload_n 0, 1) := by decide +kernel
theorem dX3_makeCollection_74 : decode cX3_makeCollection 74 = .ok (.getfield 34, 3) := by decide +kernel
theorem dX3_makeCollection_77 : decode cX3_makeCollection 77 = .ok (.astore_n 1, 1) := by decide +kernel
theorem dX3_makeCollection_78 : decode cX3_makeCollection 78 = .ok (.aload_n 0, 1) := by decide +kernel
theorem dX3_makeCollection_79 : decode cX3_makeCollection 79 = .ok (.aload_n 0, 1) := by decide +kernel
theorem dX3_makeCollection_80 : decode cX3_makeCollection 80 = .ok (.getfield 38, 3) := by decide +kernel
theorem dX3_makeCollection_83 : decode cX3_makeCollection 83 = .ok (.putfield 34, 3) := by decide +kernel
theorem dX3_makeCollection_86 : decode cX3_makeCollection 86 = .ok (.aload_n 0, 1) := by decide +kernel
theorem dX3_makeCollection_87 : decode cX3_makeCollection 87 = .ok (.aload_n 1, 1) := by decide +kernel
theorem dX3_makeCollection_88 : decode cX3_makeCollection 88 = .ok (.putfield 38, 3) := by decide +kernel
theorem dX3_makeCollection_91 : decode cX3_makeCollection 91 = .ok (.aload_n 0, 1) := by decide +kernel
theorem dX3_makeCollection_92 : decode cX3_makeCollection 92 = .ok (.dup, 1) := by decide +kernel
theorem dX3_makeCollection_93 : decode cX3_makeCollection 93 = .ok (.getfield 41, 3) := by decide +kernel
theorem dX3_makeCollection_96 : decode cX3_makeCollection 96 = .ok (.iconst 1, 1) := by decide +kernel
theorem dX3_makeCollection_97 : decode cX3_makeCollection 97 = .ok (.iadd, 1) := by decide +kernel
theorem dX3_makeCollection_98 : decode cX3_makeCollection 98 = .ok (.putfield 41, 3) := by decide +kernel
theorem dX3_makeCollection_101 : decode cX3_makeCollection 101 = .ok (.return_, 1) := by decide +kernel
theorem dJ7_fill_53178_0 : decode cJ7_fill_53178 0 = .ok (.iconst 0, 1) := by decide +kernel
theorem dJ7_fill_53178_1 : decode cJ7_fill_53178 1 = .ok (.istore_n 2, 1) := by decide +kernel
theorem dJ7_fill_53178_2 : decode cJ7_fill_53178 2 = .ok (.aload_n 0, 1) := by decide +kernel
theorem dJ7_fill_53178_3 : decode cJ7_fill_53178 3 = .ok (.arraylength, 1) := by decide +kernel
theorem dJ7_fill_53178_4 : decode cJ7_fill_53178 4 = .ok (.istore_n 3, 1) := by decide +kernel
theorem dJ7_fill_53178_5 : decode cJ7_fill_53178 5 = .ok (.iload_n 2, 1) := by decide +kernel
theorem dJ7_fill_53178_6 : decode cJ7_fill_53178 6 = .ok (.iload_n 3, 1) := by decide +kernel
theorem dJ7_fill_53178_7 : decode cJ7_fill_53178 7 = .ok (.if_icmp .ge 13, 3) := by decide +kernel
theorem dJ7_fill_53178_10 : decode cJ7_fill_53178 10 = .ok (.aload_n 0, 1) := by decide +kernel
theorem dJ7_fill_53178_11 : decode cJ7_fill_53178 11 = .ok (.iload_n 2, 1) := by decide +kernel
theorem dJ7_fill_53178_12 : decode cJ7_fill_53178 12 = .ok (.iload_n 1, 1) := by decide +kernel
theorem dJ7_fill_53178_13 : decode cJ7_fill_53178 13 = .ok (.iastore, 1) := by decide +kernel
theorem dJ7_fill_53178_14 : decode cJ7_fill_53178 14 = .ok (.iinc 2 1, 3) := by decide +kernel
theorem dJ7_fill_53178_17 : decode cJ7_fill_53178 17 = .ok (.goto (-12), 3) := by decide +kernel
theorem dJ7_fill_53178_20 : decode cJ7_fill_53178 20 = .ok (.return_, 1) := by decide +kernel
set_option maxRecDepth 20000 in
theorem ggL_number_X3_number : GoodIn wsL_number wsX3_number := goodIn_ca (goodIn_ca (goodIn_r _ [7, 8, 9, 10, 11, 12, 6, 13, 14, 15, 16, 17, 18, 19, 20, 21, 22] (by decide +kernel) (by decide +kernel)) (goodIn_sub (fun _ h => List.mem_cons_of_mem _ (List.mem_append_left _ (List.mem_append_right _ h))) (by decide +kernel))) (goodIn_sub (fun _ h => List.mem_cons_of_mem _ (List.mem_append_right _ h)) (by decide +kernel))
set_option maxRecDepth 20000 in
theorem gL_number_X3_number : GoodIn wsL_number (wsV RL 7 RX3 yX3_number wsX3_number) := goodIn_app (goodIn_of _ (by decide +kernel)) ggL_number_X3_number
theorem dL_number_0 : decode cL_number 0 = .ok (.aload_n 0, 1) := by decide +kernel
theorem dL_number_1 : decode cL_number 1 = .ok (.iload_n 1, 1) := by decide +kernel
theorem dL_number_2 : decode cL_number 2 = .ok (.lload_n 2, 1) := by decide +kernel
theorem dL_number_3 : decode cL_number 3 = .ok (.invokevirtual 7, 3) := by decide +kernel
theorem dL_number_6 : decode cL_number 6 = .ok (.goto 11, 3) := by decide +kernel
theorem dL_number_9 : decode cL_number 9 = .ok (.astore 4, 2) := by decide +kernel
theorem dL_number_11 : decode cL_number 11 = .ok (.iconst 1, 1) := by decide +kernel
theorem dL_number_12 : decode cL_number 12 = .ok (.ireturn, 1) := by decide +kernel
theorem dL_number_13 : decode cL_number 13 = .ok (.astore 4, 2) := by decide +kernel
theorem dL_number_15 : decode cL_number 15 = .ok (.iconst 2, 1) := by decide +kernel
theorem dL_number_16 : decode cL_number 16 = .ok (.ireturn, 1) := by decide +kernel
theorem dL_number_17 : decode cL_number 17 = .ok (.iconst 0, 1) := by decide +kernel
theorem dL_number_18 : decode cL_number 18 = .ok (.ireturn, 1) := by decide +kernel
set_option maxRecDepth 20000 in
theorem ggL_law_X3_init : GoodIn wsL_law wsX3_init := goodIn_r _ [6, 7, 8, 9, 3, 10, 11, 12, 13, 14, 15, 16, 17, 18, 19, 20, 21, 22, 23, 24, 25, 26, 27, 28, 29, 30, 31, 32, 33, 34, 35, 36, 37, 38, 39, 40, 41, 42, 43, 44, 45, 46, 47, 151, 152, 153, 154, 155, 156, 157, 158, 159, 160, 161, 162, 163, 164, 165, 166, 167, 168, 169] (by decide +kernel) (by decide +kernel)
set_option maxRecDepth 20000 in
theorem gL_law_X3_init : GoodIn wsL_law (wsX3_init) := ggL_law_X3_init
set_option maxRecDepth 20000 in
theorem ggL_law_L_number : GoodIn wsL_law wsL_number := goodIn_ca (goodIn_ca (goodIn_r _ [51, 52, 53, 54, 55, 56, 2, 57, 58, 59, 10, 60, 61, 62, 63, 64, 151, 152, 153, 154, 155, 156, 157] (by decide +kernel) (by decide +kernel)) (goodIn_sub (fun _ h => List.mem_append_left _ (List.mem_append_right _ h)) (by decide +kernel))) (goodIn_sub (fun _ h => List.mem_append_right _ h) (by decide +kernel))
set_option maxRecDepth 20000 in
theorem gL_law_L_number : GoodIn wsL_law (va_wsS RL 84 yL_number wsL_number) := goodIn_app (goodIn_of _ (by decide +kernel)) ggL_law_L_number
set_option maxRecDepth 20000 in
theorem ggL_law_X3_collect : GoodIn wsL_law wsX3_collect := goodIn_r _ [68, 24, 69, 70, 71, 2, 72, 25, 14, 10, 26, 73, 74, 75, 23, 76, 47, 77, 78, 79, 13, 80, 34, 31, 32, 33, 30, 81, 82, 83, 84, 85, 86, 87, 88, 89, 90, 91, 92, 93, 94, 95, 96, 97, 98, 99, 100, 101, 102, 46, 103, 104, 105, 106, 107, 108, 109, 110, 45, 111, 112, 113, 114, 115, 116, 117, 118, 119, 120, 121, 122, 123, 124, 125, 126, 127, 128, 129, 130, 131, 132, 133, 134, 135, 136, 137, 138, 139, 140, 141, 142, 151, 152, 153, 154, 155, 156, 157, 167, 168, 169, 158, 159, 160, 161, 162] (by decide +kernel) (by decide +kernel)
set_option maxRecDepth 20000 in
theorem gL_law_X3_collect : GoodIn wsL_law (wsV RL 144 RX3 yX3_collect wsX3_collect) := goodIn_app (goodIn_of _ (by decide +kernel)) ggL_law_X3_collect
set_option maxRecDepth 20000 in
theorem ggL_law_X3_about : GoodIn wsL_law wsX3_about := goodIn_r _ [146, 24, 26, 147, 148, 149, 23, 150, 47, 99, 100, 101, 102, 46, 89, 2, 90, 91, 151, 152, 153, 154, 155, 156, 157, 167, 168, 169] (by decide +kernel) (by decide +kernel)
set_option maxRecDepth 20000 in
theorem gL_law_X3_about : GoodIn wsL_law (wsV RL 148 RX3 yX3_about wsX3_about) := goodIn_app (goodIn_of _ (by decide +kernel)) ggL_law_X3_about
theorem dL_law_0 : decode cL_law 0 = .ok (.new 8, 3) := by decide +kernel
theorem dL_law_3 : decode cL_law 3 = .ok (.dup, 1) := by decide +kernel
theorem dL_law_4 : decode cL_law 4 = .ok (.invokespecial 78, 3) := by decide +kernel
theorem dL_law_7 : decode cL_law 7 = .ok (.astore_n 1, 1) := by decide +kernel
theorem dL_law_8 : decode cL_law 8 = .ok (.new 79, 3) := by decide +kernel
theorem dL_law_11 : decode cL_law 11 = .ok (.dup, 1) := by decide +kernel
theorem dL_law_12 : decode cL_law 12 = .ok (.invokespecial 81, 3) := by decide +kernel
theorem dL_law_15 : decode cL_law 15 = .ok (.astore_n 2, 1) := by decide +kernel
theorem dL_law_16 : decode cL_law 16 = .ok (.iconst 1, 1) := by decide +kernel
theorem dL_law_17 : decode cL_law 17 = .ok (.newarray .long, 2) := by decide +kernel
theorem dL_law_19 : decode cL_law 19 = .ok (.astore_n 3, 1) := by decide +kernel
theorem dL_law_20 : decode cL_law 20 = .ok (.iconst 0, 1) := by decide +kernel
theorem dL_law_21 : decode cL_law 21 = .ok (.istore 4, 2) := by decide +kernel
theorem dL_law_23 : decode cL_law 23 = .ok (.iload 4, 2) := by decide +kernel
theorem dL_law_25 : decode cL_law 25 = .ok (.aload_n 0, 1) := by decide +kernel
theorem dL_law_26 : decode cL_law 26 = .ok (.arraylength, 1) := by decide +kernel
theorem dL_law_27 : decode cL_law 27 = .ok (.iconst 4, 1) := by decide +kernel
theorem dL_law_28 : decode cL_law 28 = .ok (.isub, 1) := by decide +kernel
theorem dL_law_29 : decode cL_law 29 = .ok (.if_icmp .gt 1119, 3) := by decide +kernel
theorem dL_law_32 : decode cL_law 32 = .ok (.aload_n 0, 1) := by decide +kernel
theorem dL_law_33 : decode cL_law 33 = .ok (.iload 4, 2) := by decide +kernel
theorem dL_law_35 : decode cL_law 35 = .ok (.iaload, 1) := by decide +kernel
theorem dL_law_36 : decode cL_law 36 = .ok (.bipush 31, 2) := by decide +kernel
theorem dL_law_38 : decode cL_law 38 = .ok (.iand, 1) := by decide +kernel
theorem dL_law_39 : decode cL_law 39 = .ok (.tableswitch 1103 0 18 #[89, 169, 205, 253, 313, 373, 421, 469, 517, 565, 625, 681, 736, 811, 867, 923, 998, 1011, 1036], 89) := by decide +kernel
theorem dL_law_128 : decode cL_law 128 = .ok (.aload_n 1, 1) := by decide +kernel
theorem dL_law_129 : decode cL_law 129 = .ok (.aload_n 0, 1) := by decide +kernel
theorem dL_law_130 : decode cL_law 130 = .ok (.iload 4, 2) := by decide +kernel
theorem dL_law_132 : decode cL_law 132 = .ok (.iconst 1, 1) := by decide +kernel
theorem dL_law_133 : decode cL_law 133 = .ok (.iadd, 1) := by decide +kernel
theorem dL_law_134 : decode cL_law 134 = .ok (.iaload, 1) := by decide +kernel
theorem dL_law_135 : decode cL_law 135 = .ok (.aload_n 0, 1) := by decide +kernel
theorem dL_law_136 : decode cL_law 136 = .ok (.iload 4, 2) := by decide +kernel
theorem dL_law_138 : decode cL_law 138 = .ok (.iconst 2, 1) := by decide +kernel
theorem dL_law_139 : decode cL_law 139 = .ok (.iadd, 1) := by decide +kernel
theorem dL_law_140 : decode cL_law 140 = .ok (.iaload, 1) := by decide +kernel
theorem dL_law_141 : decode cL_law 141 = .ok (.i2l, 1) := by decide +kernel
theorem dL_law_142 : decode cL_law 142 = .ok (.bipush 32, 2) := by decide +kernel
theorem dL_law_144 : decode cL_law 144 = .ok (.lshl, 1) := by decide +kernel
theorem dL_law_145 : decode cL_law 145 = .ok (.aload_n 0, 1) := by decide +kernel
theorem dL_law_146 : decode cL_law 146 = .ok (.iload 4, 2) := by decide +kernel
theorem dL_law_148 : decode cL_law 148 = .ok (.iconst 3, 1) := by decide +kernel
theorem dL_law_149 : decode cL_law 149 = .ok (.iadd, 1) := by decide +kernel
theorem dL_law_150 : decode cL_law 150 = .ok (.iaload, 1) := by decide +kernel
theorem dL_law_151 : decode cL_law 151 = .ok (.i2l, 1) := by decide +kernel
theorem dL_law_152 : decode cL_law 152 = .ok (.ldc2_w 82, 3) := by decide +kernel
theorem dL_law_155 : decode cL_law 155 = .ok (.land, 1) := by decide +kernel
theorem dL_law_156 : decode cL_law 156 = .ok (.lor, 1) := by decide +kernel
theorem dL_law_157 : decode cL_law 157 = .ok (.invokestatic 84, 3) := by decide +kernel
theorem dL_law_160 : decode cL_law 160 = .ok (.istore 5, 2) := by decide +kernel
theorem dL_law_162 : decode cL_law 162 = .ok (.aload_n 2, 1) := by decide +kernel
theorem dL_law_163 : decode cL_law 163 = .ok (.aload_n 0, 1) := by decide +kernel
theorem dL_law_164 : decode cL_law 164 = .ok (.iload 4, 2) := by decide +kernel
theorem dL_law_166 : decode cL_law 166 = .ok (.iconst 1, 1) := by decide +kernel
theorem dL_law_167 : decode cL_law 167 = .ok (.iadd, 1) := by decide +kernel
theorem dL_law_168 : decode cL_law 168 = .ok (.iaload, 1) := by decide +kernel
theorem dL_law_169 : decode cL_law 169 = .ok (.aload_n 0, 1) := by decide +kernel
theorem dL_law_170 : decode cL_law 170 = .ok (.iload 4, 2) := by decide +kernel
theorem dL_law_172 : decode cL_law 172 = .ok (.iconst 2, 1) := by decide +kernel
theorem dL_law_173 : decode cL_law 173 = .ok (.iadd, 1) := by decide +kernel
theorem dL_law_174 : decode cL_law 174 = .ok (.iaload, 1) := by decide +kernel
theorem dL_law_175 : decode cL_law 175 = .ok (.i2l, 1) := by decide +kernel
theorem dL_law_176 : decode cL_law 176 = .ok (.bipush 32, 2) := by decide +kernel
theorem dL_law_178 : decode cL_law 178 = .ok (.lshl, 1) := by decide +kernel
theorem dL_law_179 : decode cL_law 179 = .ok (.aload_n 0, 1) := by decide +kernel
theorem dL_law_180 : decode cL_law 180 = .ok (.iload 4, 2) := by decide +kernel
theorem dL_law_182 : decode cL_law 182 = .ok (.iconst 3, 1) := by decide +kernel
theorem dL_law_183 : decode cL_law 183 = .ok (.iadd, 1) := by decide +kernel
theorem dL_law_184 : decode cL_law 184 = .ok (.iaload, 1) := by decide +kernel
theorem dL_law_185 : decode cL_law 185 = .ok (.i2l, 1) := by decide +kernel
theorem dL_law_186 : decode cL_law 186 = .ok (.ldc2_w 82, 3) := by decide +kernel
theorem dL_law_189 : decode cL_law 189 = .ok (.land, 1) := by decide +kernel
theorem dL_law_190 : decode cL_law 190 = .ok (.lor, 1) := by decide +kernel
theorem dL_law_191 : decode cL_law 191 = .ok (.invokevirtual 89, 3) := by decide +kernel
theorem dL_law_194 : decode cL_law 194 = .ok (.aload_n 2, 1) := by decide +kernel
theorem dL_law_195 : decode cL_law 195 = .ok (.invokevirtual 90, 3) := by decide +kernel
theorem dL_law_198 : decode cL_law 198 = .ok (.iload 5, 2) := by decide +kernel
theorem dL_law_200 : decode cL_law 200 = .ok (.if_icmp .eq 5, 3) := by decide +kernel
theorem dL_law_203 : decode cL_law 203 = .ok (.iconst 0, 1) := by decide +kernel
theorem dL_law_204 : decode cL_law 204 = .ok (.ireturn, 1) := by decide +kernel
theorem dL_law_205 : decode cL_law 205 = .ok (.goto 937, 3) := by decide +kernel
theorem dL_law_208 : decode cL_law 208 = .ok (.aload_n 1, 1) := by decide +kernel
theorem dL_law_209 : decode cL_law 209 = .ok (.aload_n 0, 1) := by decide +kernel
theorem dL_law_210 : decode cL_law 210 = .ok (.iload 4, 2) := by decide +kernel
theorem dL_law_212 : decode cL_law 212 = .ok (.iconst 1, 1) := by decide +kernel
theorem dL_law_213 : decode cL_law 213 = .ok (.iadd, 1) := by decide +kernel
theorem dL_law_214 : decode cL_law 214 = .ok (.iaload, 1) := by decide +kernel
theorem dL_law_215 : decode cL_law 215 = .ok (.invokestatic 94, 3) := by decide +kernel
theorem dL_law_218 : decode cL_law 218 = .ok (.istore 5, 2) := by decide +kernel
theorem dL_law_220 : decode cL_law 220 = .ok (.aload_n 2, 1) := by decide +kernel
theorem dL_law_221 : decode cL_law 221 = .ok (.aload_n 0, 1) := by decide +kernel
theorem dL_law_222 : decode cL_law 222 = .ok (.iload 4, 2) := by decide +kernel
theorem dL_law_224 : decode cL_law 224 = .ok (.iconst 1, 1) := by decide +kernel
theorem dL_law_225 : decode cL_law 225 = .ok (.iadd, 1) := by decide +kernel
theorem dL_law_226 : decode cL_law 226 = .ok (.iaload, 1) := by decide +kernel
theorem dL_law_227 : decode cL_law 227 = .ok (.invokevirtual 97, 3) := by decide +kernel
theorem dL_law_230 : decode cL_law 230 = .ok (.aload_n 2, 1) := by decide +kernel
theorem dL_law_231 : decode cL_law 231 = .ok (.invokevirtual 90, 3) := by decide +kernel
theorem dL_law_234 : decode cL_law 234 = .ok (.iload 5, 2) := by decide +kernel
theorem dL_law_236 : decode cL_law 236 = .ok (.if_icmp .eq 5, 3) := by decide +kernel
theorem dL_law_239 : decode cL_law 239 = .ok (.iconst 0, 1) := by decide +kernel
theorem dL_law_240 : decode cL_law 240 = .ok (.ireturn, 1) := by decide +kernel
theorem dL_law_241 : decode cL_law 241 = .ok (.goto 901, 3) := by decide +kernel
theorem dL_law_244 : decode cL_law 244 = .ok (.aload_n 1, 1) := by decide +kernel
theorem dL_law_245 : decode cL_law 245 = .ok (.aload_n 0, 1) := by decide +kernel
theorem dL_law_246 : decode cL_law 246 = .ok (.iload 4, 2) := by decide +kernel
theorem dL_law_248 : decode cL_law 248 = .ok (.iconst 1, 1) := by decide +kernel
theorem dL_law_249 : decode cL_law 249 = .ok (.iadd, 1) := by decide +kernel
theorem dL_law_250 : decode cL_law 250 = .ok (.iaload, 1) := by decide +kernel
theorem dL_law_251 : decode cL_law 251 = .ok (.aload_n 0, 1) := by decide +kernel
theorem dL_law_252 : decode cL_law 252 = .ok (.iload 4, 2) := by decide +kernel
theorem dL_law_254 : decode cL_law 254 = .ok (.iconst 2, 1) := by decide +kernel
theorem dL_law_255 : decode cL_law 255 = .ok (.iadd, 1) := by decide +kernel
theorem dL_law_256 : decode cL_law 256 = .ok (.iaload, 1) := by decide +kernel
theorem dL_law_257 : decode cL_law 257 = .ok (.invokestatic 98, 3) := by decide +kernel
theorem dL_law_260 : decode cL_law 260 = .ok (.istore 5, 2) := by decide +kernel
theorem dL_law_262 : decode cL_law 262 = .ok (.aload_n 2, 1) := by decide +kernel
theorem dL_law_263 : decode cL_law 263 = .ok (.aload_n 0, 1) := by decide +kernel
theorem dL_law_264 : decode cL_law 264 = .ok (.iload 4, 2) := by decide +kernel
theorem dL_law_266 : decode cL_law 266 = .ok (.iconst 1, 1) := by decide +kernel
theorem dL_law_267 : decode cL_law 267 = .ok (.iadd, 1) := by decide +kernel
theorem dL_law_268 : decode cL_law 268 = .ok (.iaload, 1) := by decide +kernel
theorem dL_law_269 : decode cL_law 269 = .ok (.aload_n 0, 1) := by decide +kernel
theorem dL_law_270 : decode cL_law 270 = .ok (.iload 4, 2) := by decide +kernel
theorem dL_law_272 : decode cL_law 272 = .ok (.iconst 2, 1) := by decide +kernel
theorem dL_law_273 : decode cL_law 273 = .ok (.iadd, 1) := by decide +kernel
theorem dL_law_274 : decode cL_law 274 = .ok (.iaload, 1) := by decide +kernel
theorem dL_law_275 : decode cL_law 275 = .ok (.invokevirtual 101, 3) := by decide +kernel
theorem dL_law_278 : decode cL_law 278 = .ok (.aload_n 2, 1) := by decide +kernel
theorem dL_law_279 : decode cL_law 279 = .ok (.invokevirtual 90, 3) := by decide +kernel
theorem dL_law_282 : decode cL_law 282 = .ok (.iload 5, 2) := by decide +kernel
theorem dL_law_284 : decode cL_law 284 = .ok (.if_icmp .eq 5, 3) := by decide +kernel
theorem dL_law_287 : decode cL_law 287 = .ok (.iconst 0, 1) := by decide +kernel
theorem dL_law_288 : decode cL_law 288 = .ok (.ireturn, 1) := by decide +kernel
theorem dL_law_289 : decode cL_law 289 = .ok (.goto 853, 3) := by decide +kernel
theorem dL_law_292 : decode cL_law 292 = .ok (.aload_n 1, 1) := by decide +kernel
theorem dL_law_293 : decode cL_law 293 = .ok (.aload_n 0, 1) := by decide +kernel
theorem dL_law_294 : decode cL_law 294 = .ok (.iload 4, 2) := by decide +kernel
theorem dL_law_296 : decode cL_law 296 = .ok (.iconst 1, 1) := by decide +kernel
theorem dL_law_297 : decode cL_law 297 = .ok (.iadd, 1) := by decide +kernel
theorem dL_law_298 : decode cL_law 298 = .ok (.iaload, 1) := by decide +kernel
theorem dL_law_299 : decode cL_law 299 = .ok (.aload_n 0, 1) := by decide +kernel
theorem dL_law_300 : decode cL_law 300 = .ok (.iload 4, 2) := by decide +kernel
theorem dL_law_302 : decode cL_law 302 = .ok (.iconst 2, 1) := by decide +kernel
theorem dL_law_303 : decode cL_law 303 = .ok (.iadd, 1) := by decide +kernel
theorem dL_law_304 : decode cL_law 304 = .ok (.iaload, 1) := by decide +kernel
theorem dL_law_305 : decode cL_law 305 = .ok (.aload_n 0, 1) := by decide +kernel
theorem dL_law_306 : decode cL_law 306 = .ok (.iload 4, 2) := by decide +kernel
theorem dL_law_308 : decode cL_law 308 = .ok (.iconst 3, 1) := by decide +kernel
theorem dL_law_309 : decode cL_law 309 = .ok (.iadd, 1) := by decide +kernel
theorem dL_law_310 : decode cL_law 310 = .ok (.iaload, 1) := by decide +kernel
theorem dL_law_311 : decode cL_law 311 = .ok (.invokestatic 102, 3) := by decide +kernel
theorem dL_law_314 : decode cL_law 314 = .ok (.istore 5, 2) := by decide +kernel
theorem dL_law_316 : decode cL_law 316 = .ok (.aload_n 2, 1) := by decide +kernel
theorem dL_law_317 : decode cL_law 317 = .ok (.aload_n 0, 1) := by decide +kernel
theorem dL_law_318 : decode cL_law 318 = .ok (.iload 4, 2) := by decide +kernel
theorem dL_law_320 : decode cL_law 320 = .ok (.iconst 1, 1) := by decide +kernel
theorem dL_law_321 : decode cL_law 321 = .ok (.iadd, 1) := by decide +kernel
theorem dL_law_322 : decode cL_law 322 = .ok (.iaload, 1) := by decide +kernel
theorem dL_law_323 : decode cL_law 323 = .ok (.aload_n 0, 1) := by decide +kernel
theorem dL_law_324 : decode cL_law 324 = .ok (.iload 4, 2) := by decide +kernel
theorem dL_law_326 : decode cL_law 326 = .ok (.iconst 2, 1) := by decide +kernel
theorem dL_law_327 : decode cL_law 327 = .ok (.iadd, 1) := by decide +kernel
theorem dL_law_328 : decode cL_law 328 = .ok (.iaload, 1) := by decide +kernel
theorem dL_law_329 : decode cL_law 329 = .ok (.aload_n 0, 1) := by decide +kernel
theorem dL_law_330 : decode cL_law 330 = .ok (.iload 4, 2) := by decide +kernel
theorem dL_law_332 : decode cL_law 332 = .ok (.iconst 3, 1) := by decide +kernel
theorem dL_law_333 : decode cL_law 333 = .ok (.iadd, 1) := by decide +kernel
theorem dL_law_334 : decode cL_law 334 = .ok (.iaload, 1) := by decide +kernel
theorem dL_law_335 : decode cL_law 335 = .ok (.invokevirtual 105, 3) := by decide +kernel
theorem dL_law_338 : decode cL_law 338 = .ok (.aload_n 2, 1) := by decide +kernel
theorem dL_law_339 : decode cL_law 339 = .ok (.invokevirtual 90, 3) := by decide +kernel
theorem dL_law_342 : decode cL_law 342 = .ok (.iload 5, 2) := by decide +kernel
theorem dL_law_344 : decode cL_law 344 = .ok (.if_icmp .eq 5, 3) := by decide +kernel
theorem dL_law_347 : decode cL_law 347 = .ok (.iconst 0, 1) := by decide +kernel
theorem dL_law_348 : decode cL_law 348 = .ok (.ireturn, 1) := by decide +kernel
theorem dL_law_349 : decode cL_law 349 = .ok (.goto 793, 3) := by decide +kernel
theorem dL_law_352 : decode cL_law 352 = .ok (.aload_n 1, 1) := by decide +kernel
theorem dL_law_353 : decode cL_law 353 = .ok (.aload_n 0, 1) := by decide +kernel
theorem dL_law_354 : decode cL_law 354 = .ok (.iload 4, 2) := by decide +kernel
theorem dL_law_356 : decode cL_law 356 = .ok (.iconst 1, 1) := by decide +kernel
theorem dL_law_357 : decode cL_law 357 = .ok (.iadd, 1) := by decide +kernel
theorem dL_law_358 : decode cL_law 358 = .ok (.iaload, 1) := by decide +kernel
theorem dL_law_359 : decode cL_law 359 = .ok (.aload_n 0, 1) := by decide +kernel
theorem dL_law_360 : decode cL_law 360 = .ok (.iload 4, 2) := by decide +kernel
theorem dL_law_362 : decode cL_law 362 = .ok (.iconst 2, 1) := by decide +kernel
theorem dL_law_363 : decode cL_law 363 = .ok (.iadd, 1) := by decide +kernel
theorem dL_law_364 : decode cL_law 364 = .ok (.iaload, 1) := by decide +kernel
theorem dL_law_365 : decode cL_law 365 = .ok (.aload_n 0, 1) := by decide +kernel
theorem dL_law_366 : decode cL_law 366 = .ok (.iload 4, 2) := by decide +kernel
theorem dL_law_368 : decode cL_law 368 = .ok (.iconst 3, 1) := by decide +kernel
theorem dL_law_369 : decode cL_law 369 = .ok (.iadd, 1) := by decide +kernel
theorem dL_law_370 : decode cL_law 370 = .ok (.iaload, 1) := by decide +kernel
theorem dL_law_371 : decode cL_law 371 = .ok (.invokestatic 106, 3) := by decide +kernel
theorem dL_law_374 : decode cL_law 374 = .ok (.istore 5, 2) := by decide +kernel
theorem dL_law_376 : decode cL_law 376 = .ok (.aload_n 2, 1) := by decide +kernel
theorem dL_law_377 : decode cL_law 377 = .ok (.aload_n 0, 1) := by decide +kernel
theorem dL_law_378 : decode cL_law 378 = .ok (.iload 4, 2) := by decide +kernel
theorem dL_law_380 : decode cL_law 380 = .ok (.iconst 1, 1) := by decide +kernel
theorem dL_law_381 : decode cL_law 381 = .ok (.iadd, 1) := by decide +kernel
theorem dL_law_382 : decode cL_law 382 = .ok (.iaload, 1) := by decide +kernel
theorem dL_law_383 : decode cL_law 383 = .ok (.aload_n 0, 1) := by decide +kernel
theorem dL_law_384 : decode cL_law 384 = .ok (.iload 4, 2) := by decide +kernel
theorem dL_law_386 : decode cL_law 386 = .ok (.iconst 2, 1) := by decide +kernel
theorem dL_law_387 : decode cL_law 387 = .ok (.iadd, 1) := by decide +kernel
theorem dL_law_388 : decode cL_law 388 = .ok (.iaload, 1) := by decide +kernel
theorem dL_law_389 : decode cL_law 389 = .ok (.aload_n 0, 1) := by decide +kernel
theorem dL_law_390 : decode cL_law 390 = .ok (.iload 4, 2) := by decide +kernel
theorem dL_law_392 : decode cL_law 392 = .ok (.iconst 3, 1) := by decide +kernel
theorem dL_law_393 : decode cL_law 393 = .ok (.iadd, 1) := by decide +kernel
theorem dL_law_394 : decode cL_law 394 = .ok (.iaload, 1) := by decide +kernel
theorem dL_law_395 : decode cL_law 395 = .ok (.invokevirtual 108, 3) := by decide +kernel
theorem dL_law_398 : decode cL_law 398 = .ok (.aload_n 2, 1) := by decide +kernel
theorem dL_law_399 : decode cL_law 399 = .ok (.invokevirtual 90, 3) := by decide +kernel
theorem dL_law_402 : decode cL_law 402 = .ok (.iload 5, 2) := by decide +kernel
theorem dL_law_404 : decode cL_law 404 = .ok (.if_icmp .eq 5, 3) := by decide +kernel
theorem dL_law_407 : decode cL_law 407 = .ok (.iconst 0, 1) := by decide +kernel
theorem dL_law_408 : decode cL_law 408 = .ok (.ireturn, 1) := by decide +kernel
theorem dL_law_409 : decode cL_law 409 = .ok (.goto 733, 3) := by decide +kernel
theorem dL_law_412 : decode cL_law 412 = .ok (.aload_n 1, 1) := by decide +kernel
theorem dL_law_413 : decode cL_law 413 = .ok (.aload_n 0, 1) := by decide +kernel
theorem dL_law_414 : decode cL_law 414 = .ok (.iload 4, 2) := by decide +kernel
theorem dL_law_416 : decode cL_law 416 = .ok (.iconst 1, 1) := by decide +kernel
theorem dL_law_417 : decode cL_law 417 = .ok (.iadd, 1) := by decide +kernel
theorem dL_law_418 : decode cL_law 418 = .ok (.iaload, 1) := by decide +kernel
theorem dL_law_419 : decode cL_law 419 = .ok (.aload_n 0, 1) := by decide +kernel
theorem dL_law_420 : decode cL_law 420 = .ok (.iload 4, 2) := by decide +kernel
theorem dL_law_422 : decode cL_law 422 = .ok (.iconst 2, 1) := by decide +kernel
theorem dL_law_423 : decode cL_law 423 = .ok (.iadd, 1) := by decide +kernel
theorem dL_law_424 : decode cL_law 424 = .ok (.iaload, 1) := by decide +kernel
theorem dL_law_425 : decode cL_law 425 = .ok (.invokestatic 109, 3) := by decide +kernel
theorem dL_law_428 : decode cL_law 428 = .ok (.istore 5, 2) := by decide +kernel
theorem dL_law_430 : decode cL_law 430 = .ok (.aload_n 2, 1) := by decide +kernel
theorem dL_law_431 : decode cL_law 431 = .ok (.aload_n 0, 1) := by decide +kernel
theorem dL_law_432 : decode cL_law 432 = .ok (.iload 4, 2) := by decide +kernel
theorem dL_law_434 : decode cL_law 434 = .ok (.iconst 1, 1) := by decide +kernel
theorem dL_law_435 : decode cL_law 435 = .ok (.iadd, 1) := by decide +kernel
theorem dL_law_436 : decode cL_law 436 = .ok (.iaload, 1) := by decide +kernel
theorem dL_law_437 : decode cL_law 437 = .ok (.aload_n 0, 1) := by decide +kernel
theorem dL_law_438 : decode cL_law 438 = .ok (.iload 4, 2) := by decide +kernel
theorem dL_law_440 : decode cL_law 440 = .ok (.iconst 2, 1) := by decide +kernel
theorem dL_law_441 : decode cL_law 441 = .ok (.iadd, 1) := by decide +kernel
theorem dL_law_442 : decode cL_law 442 = .ok (.iaload, 1) := by decide +kernel
theorem dL_law_443 : decode cL_law 443 = .ok (.invokevirtual 111, 3) := by decide +kernel
theorem dL_law_446 : decode cL_law 446 = .ok (.aload_n 2, 1) := by decide +kernel
theorem dL_law_447 : decode cL_law 447 = .ok (.invokevirtual 90, 3) := by decide +kernel
theorem dL_law_450 : decode cL_law 450 = .ok (.iload 5, 2) := by decide +kernel
theorem dL_law_452 : decode cL_law 452 = .ok (.if_icmp .eq 5, 3) := by decide +kernel
theorem dL_law_455 : decode cL_law 455 = .ok (.iconst 0, 1) := by decide +kernel
theorem dL_law_456 : decode cL_law 456 = .ok (.ireturn, 1) := by decide +kernel
theorem dL_law_457 : decode cL_law 457 = .ok (.goto 685, 3) := by decide +kernel
theorem dL_law_460 : decode cL_law 460 = .ok (.aload_n 1, 1) := by decide +kernel
theorem dL_law_461 : decode cL_law 461 = .ok (.aload_n 0, 1) := by decide +kernel
theorem dL_law_462 : decode cL_law 462 = .ok (.iload 4, 2) := by decide +kernel
theorem dL_law_464 : decode cL_law 464 = .ok (.iconst 1, 1) := by decide +kernel
theorem dL_law_465 : decode cL_law 465 = .ok (.iadd, 1) := by decide +kernel
theorem dL_law_466 : decode cL_law 466 = .ok (.iaload, 1) := by decide +kernel
theorem dL_law_467 : decode cL_law 467 = .ok (.aload_n 0, 1) := by decide +kernel
theorem dL_law_468 : decode cL_law 468 = .ok (.iload 4, 2) := by decide +kernel
theorem dL_law_470 : decode cL_law 470 = .ok (.iconst 2, 1) := by decide +kernel
theorem dL_law_471 : decode cL_law 471 = .ok (.iadd, 1) := by decide +kernel
theorem dL_law_472 : decode cL_law 472 = .ok (.iaload, 1) := by decide +kernel
theorem dL_law_473 : decode cL_law 473 = .ok (.invokestatic 112, 3) := by decide +kernel
theorem dL_law_476 : decode cL_law 476 = .ok (.istore 5, 2) := by decide +kernel
theorem dL_law_478 : decode cL_law 478 = .ok (.aload_n 2, 1) := by decide +kernel
theorem dL_law_479 : decode cL_law 479 = .ok (.aload_n 0, 1) := by decide +kernel
theorem dL_law_480 : decode cL_law 480 = .ok (.iload 4, 2) := by decide +kernel
theorem dL_law_482 : decode cL_law 482 = .ok (.iconst 1, 1) := by decide +kernel
theorem dL_law_483 : decode cL_law 483 = .ok (.iadd, 1) := by decide +kernel
theorem dL_law_484 : decode cL_law 484 = .ok (.iaload, 1) := by decide +kernel
theorem dL_law_485 : decode cL_law 485 = .ok (.aload_n 0, 1) := by decide +kernel
theorem dL_law_486 : decode cL_law 486 = .ok (.iload 4, 2) := by decide +kernel
theorem dL_law_488 : decode cL_law 488 = .ok (.iconst 2, 1) := by decide +kernel
theorem dL_law_489 : decode cL_law 489 = .ok (.iadd, 1) := by decide +kernel
theorem dL_law_490 : decode cL_law 490 = .ok (.iaload, 1) := by decide +kernel
theorem dL_law_491 : decode cL_law 491 = .ok (.invokevirtual 114, 3) := by decide +kernel
theorem dL_law_494 : decode cL_law 494 = .ok (.aload_n 2, 1) := by decide +kernel
theorem dL_law_495 : decode cL_law 495 = .ok (.invokevirtual 90, 3) := by decide +kernel
theorem dL_law_498 : decode cL_law 498 = .ok (.iload 5, 2) := by decide +kernel
theorem dL_law_500 : decode cL_law 500 = .ok (.if_icmp .eq 5, 3) := by decide +kernel
theorem dL_law_503 : decode cL_law 503 = .ok (.iconst 0, 1) := by decide +kernel
theorem dL_law_504 : decode cL_law 504 = .ok (.ireturn, 1) := by decide +kernel
theorem dL_law_505 : decode cL_law 505 = .ok (.goto 637, 3) := by decide +kernel
theorem dL_law_508 : decode cL_law 508 = .ok (.aload_n 1, 1) := by decide +kernel
theorem dL_law_509 : decode cL_law 509 = .ok (.aload_n 0, 1) := by decide +kernel
theorem dL_law_510 : decode cL_law 510 = .ok (.iload 4, 2) := by decide +kernel
theorem dL_law_512 : decode cL_law 512 = .ok (.iconst 1, 1) := by decide +kernel
theorem dL_law_513 : decode cL_law 513 = .ok (.iadd, 1) := by decide +kernel
theorem dL_law_514 : decode cL_law 514 = .ok (.iaload, 1) := by decide +kernel
theorem dL_law_515 : decode cL_law 515 = .ok (.aload_n 0, 1) := by decide +kernel
theorem dL_law_516 : decode cL_law 516 = .ok (.iload 4, 2) := by decide +kernel
theorem dL_law_518 : decode cL_law 518 = .ok (.iconst 2, 1) := by decide +kernel
theorem dL_law_519 : decode cL_law 519 = .ok (.iadd, 1) := by decide +kernel
theorem dL_law_520 : decode cL_law 520 = .ok (.iaload, 1) := by decide +kernel
theorem dL_law_521 : decode cL_law 521 = .ok (.invokestatic 115, 3) := by decide +kernel
theorem dL_law_524 : decode cL_law 524 = .ok (.istore 5, 2) := by decide +kernel
theorem dL_law_526 : decode cL_law 526 = .ok (.aload_n 2, 1) := by decide +kernel
theorem dL_law_527 : decode cL_law 527 = .ok (.aload_n 0, 1) := by decide +kernel
theorem dL_law_528 : decode cL_law 528 = .ok (.iload 4, 2) := by decide +kernel
theorem dL_law_530 : decode cL_law 530 = .ok (.iconst 1, 1) := by decide +kernel
theorem dL_law_531 : decode cL_law 531 = .ok (.iadd, 1) := by decide +kernel
theorem dL_law_532 : decode cL_law 532 = .ok (.iaload, 1) := by decide +kernel
theorem dL_law_533 : decode cL_law 533 = .ok (.aload_n 0, 1) := by decide +kernel
theorem dL_law_534 : decode cL_law 534 = .ok (.iload 4, 2) := by decide +kernel
theorem dL_law_536 : decode cL_law 536 = .ok (.iconst 2, 1) := by decide +kernel
theorem dL_law_537 : decode cL_law 537 = .ok (.iadd, 1) := by decide +kernel
theorem dL_law_538 : decode cL_law 538 = .ok (.iaload, 1) := by decide +kernel
theorem dL_law_539 : decode cL_law 539 = .ok (.invokevirtual 117, 3) := by decide +kernel
theorem dL_law_542 : decode cL_law 542 = .ok (.aload_n 2, 1) := by decide +kernel
theorem dL_law_543 : decode cL_law 543 = .ok (.invokevirtual 90, 3) := by decide +kernel
theorem dL_law_546 : decode cL_law 546 = .ok (.iload 5, 2) := by decide +kernel
theorem dL_law_548 : decode cL_law 548 = .ok (.if_icmp .eq 5, 3) := by decide +kernel
theorem dL_law_551 : decode cL_law 551 = .ok (.iconst 0, 1) := by decide +kernel
theorem dL_law_552 : decode cL_law 552 = .ok (.ireturn, 1) := by decide +kernel
theorem dL_law_553 : decode cL_law 553 = .ok (.goto 589, 3) := by decide +kernel
theorem dL_law_556 : decode cL_law 556 = .ok (.aload_n 1, 1) := by decide +kernel
theorem dL_law_557 : decode cL_law 557 = .ok (.aload_n 0, 1) := by decide +kernel
theorem dL_law_558 : decode cL_law 558 = .ok (.iload 4, 2) := by decide +kernel
theorem dL_law_560 : decode cL_law 560 = .ok (.iconst 1, 1) := by decide +kernel
theorem dL_law_561 : decode cL_law 561 = .ok (.iadd, 1) := by decide +kernel
theorem dL_law_562 : decode cL_law 562 = .ok (.iaload, 1) := by decide +kernel
theorem dL_law_563 : decode cL_law 563 = .ok (.aload_n 0, 1) := by decide +kernel
theorem dL_law_564 : decode cL_law 564 = .ok (.iload 4, 2) := by decide +kernel
theorem dL_law_566 : decode cL_law 566 = .ok (.iconst 2, 1) := by decide +kernel
theorem dL_law_567 : decode cL_law 567 = .ok (.iadd, 1) := by decide +kernel
theorem dL_law_568 : decode cL_law 568 = .ok (.iaload, 1) := by decide +kernel
theorem dL_law_569 : decode cL_law 569 = .ok (.invokestatic 118, 3) := by decide +kernel
theorem dL_law_572 : decode cL_law 572 = .ok (.istore 5, 2) := by decide +kernel
theorem dL_law_574 : decode cL_law 574 = .ok (.aload_n 2, 1) := by decide +kernel
theorem dL_law_575 : decode cL_law 575 = .ok (.aload_n 0, 1) := by decide +kernel
theorem dL_law_576 : decode cL_law 576 = .ok (.iload 4, 2) := by decide +kernel
theorem dL_law_578 : decode cL_law 578 = .ok (.iconst 1, 1) := by decide +kernel
theorem dL_law_579 : decode cL_law 579 = .ok (.iadd, 1) := by decide +kernel
theorem dL_law_580 : decode cL_law 580 = .ok (.iaload, 1) := by decide +kernel
theorem dL_law_581 : decode cL_law 581 = .ok (.aload_n 0, 1) := by decide +kernel
theorem dL_law_582 : decode cL_law 582 = .ok (.iload 4, 2) := by decide +kernel
theorem dL_law_584 : decode cL_law 584 = .ok (.iconst 2, 1) := by decide +kernel
theorem dL_law_585 : decode cL_law 585 = .ok (.iadd, 1) := by decide +kernel
theorem dL_law_586 : decode cL_law 586 = .ok (.iaload, 1) := by decide +kernel
theorem dL_law_587 : decode cL_law 587 = .ok (.invokevirtual 120, 3) := by decide +kernel
theorem dL_law_590 : decode cL_law 590 = .ok (.aload_n 2, 1) := by decide +kernel
theorem dL_law_591 : decode cL_law 591 = .ok (.invokevirtual 90, 3) := by decide +kernel
theorem dL_law_594 : decode cL_law 594 = .ok (.iload 5, 2) := by decide +kernel
theorem dL_law_596 : decode cL_law 596 = .ok (.if_icmp .eq 5, 3) := by decide +kernel
theorem dL_law_599 : decode cL_law 599 = .ok (.iconst 0, 1) := by decide +kernel
theorem dL_law_600 : decode cL_law 600 = .ok (.ireturn, 1) := by decide +kernel
theorem dL_law_601 : decode cL_law 601 = .ok (.goto 541, 3) := by decide +kernel
theorem dL_law_604 : decode cL_law 604 = .ok (.aload_n 1, 1) := by decide +kernel
theorem dL_law_605 : decode cL_law 605 = .ok (.aload_n 0, 1) := by decide +kernel
theorem dL_law_606 : decode cL_law 606 = .ok (.iload 4, 2) := by decide +kernel
theorem dL_law_608 : decode cL_law 608 = .ok (.iconst 1, 1) := by decide +kernel
theorem dL_law_609 : decode cL_law 609 = .ok (.iadd, 1) := by decide +kernel
theorem dL_law_610 : decode cL_law 610 = .ok (.iaload, 1) := by decide +kernel
theorem dL_law_611 : decode cL_law 611 = .ok (.aload_n 0, 1) := by decide +kernel
theorem dL_law_612 : decode cL_law 612 = .ok (.iload 4, 2) := by decide +kernel
theorem dL_law_614 : decode cL_law 614 = .ok (.iconst 2, 1) := by decide +kernel
theorem dL_law_615 : decode cL_law 615 = .ok (.iadd, 1) := by decide +kernel
theorem dL_law_616 : decode cL_law 616 = .ok (.iaload, 1) := by decide +kernel
theorem dL_law_617 : decode cL_law 617 = .ok (.aload_n 0, 1) := by decide +kernel
theorem dL_law_618 : decode cL_law 618 = .ok (.iload 4, 2) := by decide +kernel
theorem dL_law_620 : decode cL_law 620 = .ok (.iconst 3, 1) := by decide +kernel
theorem dL_law_621 : decode cL_law 621 = .ok (.iadd, 1) := by decide +kernel
theorem dL_law_622 : decode cL_law 622 = .ok (.iaload, 1) := by decide +kernel
theorem dL_law_623 : decode cL_law 623 = .ok (.invokestatic 121, 3) := by decide +kernel
theorem dL_law_626 : decode cL_law 626 = .ok (.istore 5, 2) := by decide +kernel
theorem dL_law_628 : decode cL_law 628 = .ok (.aload_n 2, 1) := by decide +kernel
theorem dL_law_629 : decode cL_law 629 = .ok (.aload_n 0, 1) := by decide +kernel
theorem dL_law_630 : decode cL_law 630 = .ok (.iload 4, 2) := by decide +kernel
theorem dL_law_632 : decode cL_law 632 = .ok (.iconst 1, 1) := by decide +kernel
theorem dL_law_633 : decode cL_law 633 = .ok (.iadd, 1) := by decide +kernel
theorem dL_law_634 : decode cL_law 634 = .ok (.iaload, 1) := by decide +kernel
theorem dL_law_635 : decode cL_law 635 = .ok (.aload_n 0, 1) := by decide +kernel
theorem dL_law_636 : decode cL_law 636 = .ok (.iload 4, 2) := by decide +kernel
theorem dL_law_638 : decode cL_law 638 = .ok (.iconst 2, 1) := by decide +kernel
theorem dL_law_639 : decode cL_law 639 = .ok (.iadd, 1) := by decide +kernel
theorem dL_law_640 : decode cL_law 640 = .ok (.iaload, 1) := by decide +kernel
theorem dL_law_641 : decode cL_law 641 = .ok (.aload_n 0, 1) := by decide +kernel
theorem dL_law_642 : decode cL_law 642 = .ok (.iload 4, 2) := by decide +kernel
theorem dL_law_644 : decode cL_law 644 = .ok (.iconst 3, 1) := by decide +kernel
theorem dL_law_645 : decode cL_law 645 = .ok (.iadd, 1) := by decide +kernel
theorem dL_law_646 : decode cL_law 646 = .ok (.iaload, 1) := by decide +kernel
theorem dL_law_647 : decode cL_law 647 = .ok (.invokevirtual 123, 3) := by decide +kernel
theorem dL_law_650 : decode cL_law 650 = .ok (.aload_n 2, 1) := by decide +kernel
theorem dL_law_651 : decode cL_law 651 = .ok (.invokevirtual 90, 3) := by decide +kernel
theorem dL_law_654 : decode cL_law 654 = .ok (.iload 5, 2) := by decide +kernel
theorem dL_law_656 : decode cL_law 656 = .ok (.if_icmp .eq 5, 3) := by decide +kernel
theorem dL_law_659 : decode cL_law 659 = .ok (.iconst 0, 1) := by decide +kernel
theorem dL_law_660 : decode cL_law 660 = .ok (.ireturn, 1) := by decide +kernel
theorem dL_law_661 : decode cL_law 661 = .ok (.goto 481, 3) := by decide +kernel
theorem dL_law_664 : decode cL_law 664 = .ok (.aload_n 1, 1) := by decide +kernel
theorem dL_law_665 : decode cL_law 665 = .ok (.aload_n 0, 1) := by decide +kernel
theorem dL_law_666 : decode cL_law 666 = .ok (.iload 4, 2) := by decide +kernel
theorem dL_law_668 : decode cL_law 668 = .ok (.iconst 1, 1) := by decide +kernel
theorem dL_law_669 : decode cL_law 669 = .ok (.iadd, 1) := by decide +kernel
theorem dL_law_670 : decode cL_law 670 = .ok (.iaload, 1) := by decide +kernel
theorem dL_law_671 : decode cL_law 671 = .ok (.aload_n 3, 1) := by decide +kernel
theorem dL_law_672 : decode cL_law 672 = .ok (.invokestatic 124, 3) := by decide +kernel
theorem dL_law_675 : decode cL_law 675 = .ok (.istore 5, 2) := by decide +kernel
theorem dL_law_677 : decode cL_law 677 = .ok (.aload_n 2, 1) := by decide +kernel
theorem dL_law_678 : decode cL_law 678 = .ok (.aload_n 0, 1) := by decide +kernel
theorem dL_law_679 : decode cL_law 679 = .ok (.iload 4, 2) := by decide +kernel
theorem dL_law_681 : decode cL_law 681 = .ok (.iconst 1, 1) := by decide +kernel
theorem dL_law_682 : decode cL_law 682 = .ok (.iadd, 1) := by decide +kernel
theorem dL_law_683 : decode cL_law 683 = .ok (.iaload, 1) := by decide +kernel
theorem dL_law_684 : decode cL_law 684 = .ok (.invokevirtual 127, 3) := by decide +kernel
theorem dL_law_687 : decode cL_law 687 = .ok (.istore 6, 2) := by decide +kernel
theorem dL_law_689 : decode cL_law 689 = .ok (.aload_n 2, 1) := by decide +kernel
theorem dL_law_690 : decode cL_law 690 = .ok (.invokevirtual 90, 3) := by decide +kernel
theorem dL_law_693 : decode cL_law 693 = .ok (.iload 5, 2) := by decide +kernel
theorem dL_law_695 : decode cL_law 695 = .ok (.if_icmp .eq 5, 3) := by decide +kernel
theorem dL_law_698 : decode cL_law 698 = .ok (.iconst 0, 1) := by decide +kernel
theorem dL_law_699 : decode cL_law 699 = .ok (.ireturn, 1) := by decide +kernel
theorem dL_law_700 : decode cL_law 700 = .ok (.iload 5, 2) := by decide +kernel
theorem dL_law_702 : decode cL_law 702 = .ok (.ifCond .ne 15, 3) := by decide +kernel
theorem dL_law_705 : decode cL_law 705 = .ok (.aload_n 3, 1) := by decide +kernel
theorem dL_law_706 : decode cL_law 706 = .ok (.iconst 0, 1) := by decide +kernel
theorem dL_law_707 : decode cL_law 707 = .ok (.laload, 1) := by decide +kernel
theorem dL_law_708 : decode cL_law 708 = .ok (.iload 6, 2) := by decide +kernel
theorem dL_law_710 : decode cL_law 710 = .ok (.i2l, 1) := by decide +kernel
theorem dL_law_711 : decode cL_law 711 = .ok (.lcmp, 1) := by decide +kernel
theorem dL_law_712 : decode cL_law 712 = .ok (.ifCond .eq 5, 3) := by decide +kernel
theorem dL_law_715 : decode cL_law 715 = .ok (.iconst 0, 1) := by decide +kernel
theorem dL_law_716 : decode cL_law 716 = .ok (.ireturn, 1) := by decide +kernel
theorem dL_law_717 : decode cL_law 717 = .ok (.goto 425, 3) := by decide +kernel
theorem dL_law_720 : decode cL_law 720 = .ok (.aload_n 1, 1) := by decide +kernel
theorem dL_law_721 : decode cL_law 721 = .ok (.aload_n 0, 1) := by decide +kernel
theorem dL_law_722 : decode cL_law 722 = .ok (.iload 4, 2) := by decide +kernel
theorem dL_law_724 : decode cL_law 724 = .ok (.iconst 1, 1) := by decide +kernel
theorem dL_law_725 : decode cL_law 725 = .ok (.iadd, 1) := by decide +kernel
theorem dL_law_726 : decode cL_law 726 = .ok (.iaload, 1) := by decide +kernel
theorem dL_law_727 : decode cL_law 727 = .ok (.aload_n 3, 1) := by decide +kernel
theorem dL_law_728 : decode cL_law 728 = .ok (.invokestatic 128, 3) := by decide +kernel
theorem dL_law_731 : decode cL_law 731 = .ok (.istore 5, 2) := by decide +kernel
theorem dL_law_733 : decode cL_law 733 = .ok (.aload_n 2, 1) := by decide +kernel
theorem dL_law_734 : decode cL_law 734 = .ok (.aload_n 0, 1) := by decide +kernel
theorem dL_law_735 : decode cL_law 735 = .ok (.iload 4, 2) := by decide +kernel
theorem dL_law_737 : decode cL_law 737 = .ok (.iconst 1, 1) := by decide +kernel
theorem dL_law_738 : decode cL_law 738 = .ok (.iadd, 1) := by decide +kernel
theorem dL_law_739 : decode cL_law 739 = .ok (.iaload, 1) := by decide +kernel
theorem dL_law_740 : decode cL_law 740 = .ok (.invokevirtual 130, 3) := by decide +kernel
theorem dL_law_743 : decode cL_law 743 = .ok (.lstore 6, 2) := by decide +kernel
theorem dL_law_745 : decode cL_law 745 = .ok (.aload_n 2, 1) := by decide +kernel
theorem dL_law_746 : decode cL_law 746 = .ok (.invokevirtual 90, 3) := by decide +kernel
theorem dL_law_749 : decode cL_law 749 = .ok (.iload 5, 2) := by decide +kernel
theorem dL_law_751 : decode cL_law 751 = .ok (.if_icmp .eq 5, 3) := by decide +kernel
theorem dL_law_754 : decode cL_law 754 = .ok (.iconst 0, 1) := by decide +kernel
theorem dL_law_755 : decode cL_law 755 = .ok (.ireturn, 1) := by decide +kernel
theorem dL_law_756 : decode cL_law 756 = .ok (.iload 5, 2) := by decide +kernel
theorem dL_law_758 : decode cL_law 758 = .ok (.ifCond .ne 14, 3) := by decide +kernel
theorem dL_law_761 : decode cL_law 761 = .ok (.aload_n 3, 1) := by decide +kernel
theorem dL_law_762 : decode cL_law 762 = .ok (.iconst 0, 1) := by decide +kernel
theorem dL_law_763 : decode cL_law 763 = .ok (.laload, 1) := by decide +kernel
theorem dL_law_764 : decode cL_law 764 = .ok (.lload 6, 2) := by decide +kernel
theorem dL_law_766 : decode cL_law 766 = .ok (.lcmp, 1) := by decide +kernel
theorem dL_law_767 : decode cL_law 767 = .ok (.ifCond .eq 5, 3) := by decide +kernel
theorem dL_law_770 : decode cL_law 770 = .ok (.iconst 0, 1) := by decide +kernel
theorem dL_law_771 : decode cL_law 771 = .ok (.ireturn, 1) := by decide +kernel
theorem dL_law_772 : decode cL_law 772 = .ok (.goto 370, 3) := by decide +kernel
theorem dL_law_775 : decode cL_law 775 = .ok (.aload_n 1, 1) := by decide +kernel
theorem dL_law_776 : decode cL_law 776 = .ok (.aload_n 0, 1) := by decide +kernel
theorem dL_law_777 : decode cL_law 777 = .ok (.iload 4, 2) := by decide +kernel
theorem dL_law_779 : decode cL_law 779 = .ok (.iconst 1, 1) := by decide +kernel
theorem dL_law_780 : decode cL_law 780 = .ok (.iadd, 1) := by decide +kernel
theorem dL_law_781 : decode cL_law 781 = .ok (.iaload, 1) := by decide +kernel
theorem dL_law_782 : decode cL_law 782 = .ok (.aload_n 0, 1) := by decide +kernel
theorem dL_law_783 : decode cL_law 783 = .ok (.iload 4, 2) := by decide +kernel
theorem dL_law_785 : decode cL_law 785 = .ok (.iconst 2, 1) := by decide +kernel
theorem dL_law_786 : decode cL_law 786 = .ok (.iadd, 1) := by decide +kernel
theorem dL_law_787 : decode cL_law 787 = .ok (.iaload, 1) := by decide +kernel
theorem dL_law_788 : decode cL_law 788 = .ok (.aload_n 3, 1) := by decide +kernel
theorem dL_law_789 : decode cL_law 789 = .ok (.invokestatic 131, 3) := by decide +kernel
theorem dL_law_792 : decode cL_law 792 = .ok (.istore 5, 2) := by decide +kernel
theorem dL_law_794 : decode cL_law 794 = .ok (.aload_n 2, 1) := by decide +kernel
theorem dL_law_795 : decode cL_law 795 = .ok (.aload_n 0, 1) := by decide +kernel
theorem dL_law_796 : decode cL_law 796 = .ok (.iload 4, 2) := by decide +kernel
theorem dL_law_798 : decode cL_law 798 = .ok (.iconst 1, 1) := by decide +kernel
theorem dL_law_799 : decode cL_law 799 = .ok (.iadd, 1) := by decide +kernel
theorem dL_law_800 : decode cL_law 800 = .ok (.iaload, 1) := by decide +kernel
theorem dL_law_801 : decode cL_law 801 = .ok (.aload_n 0, 1) := by decide +kernel
theorem dL_law_802 : decode cL_law 802 = .ok (.iload 4, 2) := by decide +kernel
theorem dL_law_804 : decode cL_law 804 = .ok (.iconst 2, 1) := by decide +kernel
theorem dL_law_805 : decode cL_law 805 = .ok (.iadd, 1) := by decide +kernel
theorem dL_law_806 : decode cL_law 806 = .ok (.iaload, 1) := by decide +kernel
theorem dL_law_807 : decode cL_law 807 = .ok (.invokevirtual 134, 3) := by decide +kernel
theorem dL_law_810 : decode cL_law 810 = .ok (.istore 6, 2) := by decide +kernel
theorem dL_law_812 : decode cL_law 812 = .ok (.aload_n 2, 1) := by decide +kernel
theorem dL_law_813 : decode cL_law 813 = .ok (.invokevirtual 90, 3) := by decide +kernel
theorem dL_law_816 : decode cL_law 816 = .ok (.iload 5, 2) := by decide +kernel
theorem dL_law_818 : decode cL_law 818 = .ok (.if_icmp .eq 5, 3) := by decide +kernel
theorem dL_law_821 : decode cL_law 821 = .ok (.iconst 0, 1) := by decide +kernel
theorem dL_law_822 : decode cL_law 822 = .ok (.ireturn, 1) := by decide +kernel
theorem dL_law_823 : decode cL_law 823 = .ok (.iload 5, 2) := by decide +kernel
theorem dL_law_825 : decode cL_law 825 = .ok (.ifCond .ne 22, 3) := by decide +kernel
theorem dL_law_828 : decode cL_law 828 = .ok (.aload_n 3, 1) := by decide +kernel
theorem dL_law_829 : decode cL_law 829 = .ok (.iconst 0, 1) := by decide +kernel
theorem dL_law_830 : decode cL_law 830 = .ok (.laload, 1) := by decide +kernel
theorem dL_law_831 : decode cL_law 831 = .ok (.iload 6, 2) := by decide +kernel
theorem dL_law_833 : decode cL_law 833 = .ok (.ifCond .eq 7, 3) := by decide +kernel
theorem dL_law_836 : decode cL_law 836 = .ok (.lconst 1, 1) := by decide +kernel
theorem dL_law_837 : decode cL_law 837 = .ok (.goto 4, 3) := by decide +kernel
theorem dL_law_840 : decode cL_law 840 = .ok (.lconst 0, 1) := by decide +kernel
theorem dL_law_841 : decode cL_law 841 = .ok (.lcmp, 1) := by decide +kernel
theorem dL_law_842 : decode cL_law 842 = .ok (.ifCond .eq 5, 3) := by decide +kernel
theorem dL_law_845 : decode cL_law 845 = .ok (.iconst 0, 1) := by decide +kernel
theorem dL_law_846 : decode cL_law 846 = .ok (.ireturn, 1) := by decide +kernel
theorem dL_law_847 : decode cL_law 847 = .ok (.goto 295, 3) := by decide +kernel
theorem dL_law_850 : decode cL_law 850 = .ok (.aload_n 1, 1) := by decide +kernel
theorem dL_law_851 : decode cL_law 851 = .ok (.aload_n 0, 1) := by decide +kernel
theorem dL_law_852 : decode cL_law 852 = .ok (.iload 4, 2) := by decide +kernel
theorem dL_law_854 : decode cL_law 854 = .ok (.iconst 1, 1) := by decide +kernel
theorem dL_law_855 : decode cL_law 855 = .ok (.iadd, 1) := by decide +kernel
theorem dL_law_856 : decode cL_law 856 = .ok (.iaload, 1) := by decide +kernel
theorem dL_law_857 : decode cL_law 857 = .ok (.aload_n 3, 1) := by decide +kernel
theorem dL_law_858 : decode cL_law 858 = .ok (.invokestatic 135, 3) := by decide +kernel
theorem dL_law_861 : decode cL_law 861 = .ok (.istore 5, 2) := by decide +kernel
theorem dL_law_863 : decode cL_law 863 = .ok (.aload_n 2, 1) := by decide +kernel
theorem dL_law_864 : decode cL_law 864 = .ok (.aload_n 0, 1) := by decide +kernel
theorem dL_law_865 : decode cL_law 865 = .ok (.iload 4, 2) := by decide +kernel
theorem dL_law_867 : decode cL_law 867 = .ok (.iconst 1, 1) := by decide +kernel
theorem dL_law_868 : decode cL_law 868 = .ok (.iadd, 1) := by decide +kernel
theorem dL_law_869 : decode cL_law 869 = .ok (.iaload, 1) := by decide +kernel
theorem dL_law_870 : decode cL_law 870 = .ok (.invokevirtual 137, 3) := by decide +kernel
theorem dL_law_873 : decode cL_law 873 = .ok (.istore 6, 2) := by decide +kernel
theorem dL_law_875 : decode cL_law 875 = .ok (.aload_n 2, 1) := by decide +kernel
theorem dL_law_876 : decode cL_law 876 = .ok (.invokevirtual 90, 3) := by decide +kernel
theorem dL_law_879 : decode cL_law 879 = .ok (.iload 5, 2) := by decide +kernel
theorem dL_law_881 : decode cL_law 881 = .ok (.if_icmp .eq 5, 3) := by decide +kernel
theorem dL_law_884 : decode cL_law 884 = .ok (.iconst 0, 1) := by decide +kernel
theorem dL_law_885 : decode cL_law 885 = .ok (.ireturn, 1) := by decide +kernel
theorem dL_law_886 : decode cL_law 886 = .ok (.iload 5, 2) := by decide +kernel
theorem dL_law_888 : decode cL_law 888 = .ok (.ifCond .ne 15, 3) := by decide +kernel
theorem dL_law_891 : decode cL_law 891 = .ok (.aload_n 3, 1) := by decide +kernel
theorem dL_law_892 : decode cL_law 892 = .ok (.iconst 0, 1) := by decide +kernel
theorem dL_law_893 : decode cL_law 893 = .ok (.laload, 1) := by decide +kernel
theorem dL_law_894 : decode cL_law 894 = .ok (.iload 6, 2) := by decide +kernel
theorem dL_law_896 : decode cL_law 896 = .ok (.i2l, 1) := by decide +kernel
theorem dL_law_897 : decode cL_law 897 = .ok (.lcmp, 1) := by decide +kernel
theorem dL_law_898 : decode cL_law 898 = .ok (.ifCond .eq 5, 3) := by decide +kernel
theorem dL_law_901 : decode cL_law 901 = .ok (.iconst 0, 1) := by decide +kernel
theorem dL_law_902 : decode cL_law 902 = .ok (.ireturn, 1) := by decide +kernel
theorem dL_law_903 : decode cL_law 903 = .ok (.goto 239, 3) := by decide +kernel
theorem dL_law_906 : decode cL_law 906 = .ok (.aload_n 1, 1) := by decide +kernel
theorem dL_law_907 : decode cL_law 907 = .ok (.aload_n 0, 1) := by decide +kernel
theorem dL_law_908 : decode cL_law 908 = .ok (.iload 4, 2) := by decide +kernel
theorem dL_law_910 : decode cL_law 910 = .ok (.iconst 1, 1) := by decide +kernel
theorem dL_law_911 : decode cL_law 911 = .ok (.iadd, 1) := by decide +kernel
theorem dL_law_912 : decode cL_law 912 = .ok (.iaload, 1) := by decide +kernel
theorem dL_law_913 : decode cL_law 913 = .ok (.aload_n 3, 1) := by decide +kernel
theorem dL_law_914 : decode cL_law 914 = .ok (.invokestatic 138, 3) := by decide +kernel
theorem dL_law_917 : decode cL_law 917 = .ok (.istore 5, 2) := by decide +kernel
theorem dL_law_919 : decode cL_law 919 = .ok (.aload_n 2, 1) := by decide +kernel
theorem dL_law_920 : decode cL_law 920 = .ok (.aload_n 0, 1) := by decide +kernel
theorem dL_law_921 : decode cL_law 921 = .ok (.iload 4, 2) := by decide +kernel
theorem dL_law_923 : decode cL_law 923 = .ok (.iconst 1, 1) := by decide +kernel
theorem dL_law_924 : decode cL_law 924 = .ok (.iadd, 1) := by decide +kernel
theorem dL_law_925 : decode cL_law 925 = .ok (.iaload, 1) := by decide +kernel
theorem dL_law_926 : decode cL_law 926 = .ok (.invokevirtual 140, 3) := by decide +kernel
theorem dL_law_929 : decode cL_law 929 = .ok (.istore 6, 2) := by decide +kernel
theorem dL_law_931 : decode cL_law 931 = .ok (.aload_n 2, 1) := by decide +kernel
theorem dL_law_932 : decode cL_law 932 = .ok (.invokevirtual 90, 3) := by decide +kernel
theorem dL_law_935 : decode cL_law 935 = .ok (.iload 5, 2) := by decide +kernel
theorem dL_law_937 : decode cL_law 937 = .ok (.if_icmp .eq 5, 3) := by decide +kernel
theorem dL_law_940 : decode cL_law 940 = .ok (.iconst 0, 1) := by decide +kernel
theorem dL_law_941 : decode cL_law 941 = .ok (.ireturn, 1) := by decide +kernel
theorem dL_law_942 : decode cL_law 942 = .ok (.iload 5, 2) := by decide +kernel
theorem dL_law_944 : decode cL_law 944 = .ok (.ifCond .ne 15, 3) := by decide +kernel
theorem dL_law_947 : decode cL_law 947 = .ok (.aload_n 3, 1) := by decide +kernel
theorem dL_law_948 : decode cL_law 948 = .ok (.iconst 0, 1) := by decide +kernel
theorem dL_law_949 : decode cL_law 949 = .ok (.laload, 1) := by decide +kernel
theorem dL_law_950 : decode cL_law 950 = .ok (.iload 6, 2) := by decide +kernel
theorem dL_law_952 : decode cL_law 952 = .ok (.i2l, 1) := by decide +kernel
theorem dL_law_953 : decode cL_law 953 = .ok (.lcmp, 1) := by decide +kernel
theorem dL_law_954 : decode cL_law 954 = .ok (.ifCond .eq 5, 3) := by decide +kernel
theorem dL_law_957 : decode cL_law 957 = .ok (.iconst 0, 1) := by decide +kernel
theorem dL_law_958 : decode cL_law 958 = .ok (.ireturn, 1) := by decide +kernel
theorem dL_law_959 : decode cL_law 959 = .ok (.goto 183, 3) := by decide +kernel
theorem dL_law_962 : decode cL_law 962 = .ok (.aload_n 1, 1) := by decide +kernel
theorem dL_law_963 : decode cL_law 963 = .ok (.aload_n 0, 1) := by decide +kernel
theorem dL_law_964 : decode cL_law 964 = .ok (.iload 4, 2) := by decide +kernel
theorem dL_law_966 : decode cL_law 966 = .ok (.iconst 1, 1) := by decide +kernel
theorem dL_law_967 : decode cL_law 967 = .ok (.iadd, 1) := by decide +kernel
theorem dL_law_968 : decode cL_law 968 = .ok (.iaload, 1) := by decide +kernel
theorem dL_law_969 : decode cL_law 969 = .ok (.aload_n 0, 1) := by decide +kernel
theorem dL_law_970 : decode cL_law 970 = .ok (.iload 4, 2) := by decide +kernel
theorem dL_law_972 : decode cL_law 972 = .ok (.iconst 2, 1) := by decide +kernel
theorem dL_law_973 : decode cL_law 973 = .ok (.iadd, 1) := by decide +kernel
theorem dL_law_974 : decode cL_law 974 = .ok (.iaload, 1) := by decide +kernel
theorem dL_law_975 : decode cL_law 975 = .ok (.aload_n 3, 1) := by decide +kernel
theorem dL_law_976 : decode cL_law 976 = .ok (.invokestatic 141, 3) := by decide +kernel
theorem dL_law_979 : decode cL_law 979 = .ok (.istore 5, 2) := by decide +kernel
theorem dL_law_981 : decode cL_law 981 = .ok (.aload_n 2, 1) := by decide +kernel
theorem dL_law_982 : decode cL_law 982 = .ok (.aload_n 0, 1) := by decide +kernel
theorem dL_law_983 : decode cL_law 983 = .ok (.iload 4, 2) := by decide +kernel
theorem dL_law_985 : decode cL_law 985 = .ok (.iconst 1, 1) := by decide +kernel
theorem dL_law_986 : decode cL_law 986 = .ok (.iadd, 1) := by decide +kernel
theorem dL_law_987 : decode cL_law 987 = .ok (.iaload, 1) := by decide +kernel
theorem dL_law_988 : decode cL_law 988 = .ok (.aload_n 0, 1) := by decide +kernel
theorem dL_law_989 : decode cL_law 989 = .ok (.iload 4, 2) := by decide +kernel
theorem dL_law_991 : decode cL_law 991 = .ok (.iconst 2, 1) := by decide +kernel
theorem dL_law_992 : decode cL_law 992 = .ok (.iadd, 1) := by decide +kernel
theorem dL_law_993 : decode cL_law 993 = .ok (.iaload, 1) := by decide +kernel
theorem dL_law_994 : decode cL_law 994 = .ok (.invokevirtual 143, 3) := by decide +kernel
theorem dL_law_997 : decode cL_law 997 = .ok (.istore 6, 2) := by decide +kernel
theorem dL_law_999 : decode cL_law 999 = .ok (.aload_n 2, 1) := by decide +kernel
theorem dL_law_1000 : decode cL_law 1000 = .ok (.invokevirtual 90, 3) := by decide +kernel
theorem dL_law_1003 : decode cL_law 1003 = .ok (.iload 5, 2) := by decide +kernel
theorem dL_law_1005 : decode cL_law 1005 = .ok (.if_icmp .eq 5, 3) := by decide +kernel
theorem dL_law_1008 : decode cL_law 1008 = .ok (.iconst 0, 1) := by decide +kernel
theorem dL_law_1009 : decode cL_law 1009 = .ok (.ireturn, 1) := by decide +kernel
theorem dL_law_1010 : decode cL_law 1010 = .ok (.iload 5, 2) := by decide +kernel
theorem dL_law_1012 : decode cL_law 1012 = .ok (.ifCond .ne 22, 3) := by decide +kernel
theorem dL_law_1015 : decode cL_law 1015 = .ok (.aload_n 3, 1) := by decide +kernel
theorem dL_law_1016 : decode cL_law 1016 = .ok (.iconst 0, 1) := by decide +kernel
theorem dL_law_1017 : decode cL_law 1017 = .ok (.laload, 1) := by decide +kernel
theorem dL_law_1018 : decode cL_law 1018 = .ok (.iload 6, 2) := by decide +kernel
theorem dL_law_1020 : decode cL_law 1020 = .ok (.ifCond .eq 7, 3) := by decide +kernel
theorem dL_law_1023 : decode cL_law 1023 = .ok (.lconst 1, 1) := by decide +kernel
theorem dL_law_1024 : decode cL_law 1024 = .ok (.goto 4, 3) := by decide +kernel
theorem dL_law_1027 : decode cL_law 1027 = .ok (.lconst 0, 1) := by decide +kernel
theorem dL_law_1028 : decode cL_law 1028 = .ok (.lcmp, 1) := by decide +kernel
theorem dL_law_1029 : decode cL_law 1029 = .ok (.ifCond .eq 5, 3) := by decide +kernel
theorem dL_law_1032 : decode cL_law 1032 = .ok (.iconst 0, 1) := by decide +kernel
theorem dL_law_1033 : decode cL_law 1033 = .ok (.ireturn, 1) := by decide +kernel
theorem dL_law_1034 : decode cL_law 1034 = .ok (.goto 108, 3) := by decide +kernel
theorem dL_law_1037 : decode cL_law 1037 = .ok (.aload_n 1, 1) := by decide +kernel
theorem dL_law_1038 : decode cL_law 1038 = .ok (.invokevirtual 144, 3) := by decide +kernel
theorem dL_law_1041 : decode cL_law 1041 = .ok (.aload_n 2, 1) := by decide +kernel
theorem dL_law_1042 : decode cL_law 1042 = .ok (.invokevirtual 147, 3) := by decide +kernel
theorem dL_law_1045 : decode cL_law 1045 = .ok (.if_icmp .eq 97, 3) := by decide +kernel
theorem dL_law_1048 : decode cL_law 1048 = .ok (.iconst 0, 1) := by decide +kernel
theorem dL_law_1049 : decode cL_law 1049 = .ok (.ireturn, 1) := by decide +kernel
theorem dL_law_1050 : decode cL_law 1050 = .ok (.aload_n 1, 1) := by decide +kernel
theorem dL_law_1051 : decode cL_law 1051 = .ok (.aload_n 0, 1) := by decide +kernel
theorem dL_law_1052 : decode cL_law 1052 = .ok (.iload 4, 2) := by decide +kernel
theorem dL_law_1054 : decode cL_law 1054 = .ok (.iconst 1, 1) := by decide +kernel
theorem dL_law_1055 : decode cL_law 1055 = .ok (.iadd, 1) := by decide +kernel
theorem dL_law_1056 : decode cL_law 1056 = .ok (.iaload, 1) := by decide +kernel
theorem dL_law_1057 : decode cL_law 1057 = .ok (.invokevirtual 148, 3) := by decide +kernel
theorem dL_law_1060 : decode cL_law 1060 = .ok (.aload_n 2, 1) := by decide +kernel
theorem dL_law_1061 : decode cL_law 1061 = .ok (.aload_n 0, 1) := by decide +kernel
theorem dL_law_1062 : decode cL_law 1062 = .ok (.iload 4, 2) := by decide +kernel
theorem dL_law_1064 : decode cL_law 1064 = .ok (.iconst 1, 1) := by decide +kernel
theorem dL_law_1065 : decode cL_law 1065 = .ok (.iadd, 1) := by decide +kernel
theorem dL_law_1066 : decode cL_law 1066 = .ok (.iaload, 1) := by decide +kernel
theorem dL_law_1067 : decode cL_law 1067 = .ok (.invokevirtual 151, 3) := by decide +kernel
theorem dL_law_1070 : decode cL_law 1070 = .ok (.if_icmp .eq 72, 3) := by decide +kernel
theorem dL_law_1073 : decode cL_law 1073 = .ok (.iconst 0, 1) := by decide +kernel
theorem dL_law_1074 : decode cL_law 1074 = .ok (.ireturn, 1) := by decide +kernel
theorem dL_law_1075 : decode cL_law 1075 = .ok (.aload_n 1, 1) := by decide +kernel
theorem dL_law_1076 : decode cL_law 1076 = .ok (.aload_n 0, 1) := by decide +kernel
theorem dL_law_1077 : decode cL_law 1077 = .ok (.iload 4, 2) := by decide +kernel
theorem dL_law_1079 : decode cL_law 1079 = .ok (.iconst 1, 1) := by decide +kernel
theorem dL_law_1080 : decode cL_law 1080 = .ok (.iadd, 1) := by decide +kernel
theorem dL_law_1081 : decode cL_law 1081 = .ok (.iaload, 1) := by decide +kernel
theorem dL_law_1082 : decode cL_law 1082 = .ok (.aload_n 0, 1) := by decide +kernel
theorem dL_law_1083 : decode cL_law 1083 = .ok (.iload 4, 2) := by decide +kernel
theorem dL_law_1085 : decode cL_law 1085 = .ok (.iconst 2, 1) := by decide +kernel
theorem dL_law_1086 : decode cL_law 1086 = .ok (.iadd, 1) := by decide +kernel
theorem dL_law_1087 : decode cL_law 1087 = .ok (.iaload, 1) := by decide +kernel
theorem dL_law_1088 : decode cL_law 1088 = .ok (.aload_n 3, 1) := by decide +kernel
theorem dL_law_1089 : decode cL_law 1089 = .ok (.invokestatic 152, 3) := by decide +kernel
theorem dL_law_1092 : decode cL_law 1092 = .ok (.istore 5, 2) := by decide +kernel
theorem dL_law_1094 : decode cL_law 1094 = .ok (.aload_n 2, 1) := by decide +kernel
theorem dL_law_1095 : decode cL_law 1095 = .ok (.aload_n 0, 1) := by decide +kernel
theorem dL_law_1096 : decode cL_law 1096 = .ok (.iload 4, 2) := by decide +kernel
theorem dL_law_1098 : decode cL_law 1098 = .ok (.iconst 1, 1) := by decide +kernel
theorem dL_law_1099 : decode cL_law 1099 = .ok (.iadd, 1) := by decide +kernel
theorem dL_law_1100 : decode cL_law 1100 = .ok (.iaload, 1) := by decide +kernel
theorem dL_law_1101 : decode cL_law 1101 = .ok (.aload_n 0, 1) := by decide +kernel
theorem dL_law_1102 : decode cL_law 1102 = .ok (.iload 4, 2) := by decide +kernel
theorem dL_law_1104 : decode cL_law 1104 = .ok (.iconst 2, 1) := by decide +kernel
theorem dL_law_1105 : decode cL_law 1105 = .ok (.iadd, 1) := by decide +kernel
theorem dL_law_1106 : decode cL_law 1106 = .ok (.iaload, 1) := by decide +kernel
theorem dL_law_1107 : decode cL_law 1107 = .ok (.invokevirtual 154, 3) := by decide +kernel
theorem dL_law_1110 : decode cL_law 1110 = .ok (.lstore 6, 2) := by decide +kernel
theorem dL_law_1112 : decode cL_law 1112 = .ok (.aload_n 2, 1) := by decide +kernel
theorem dL_law_1113 : decode cL_law 1113 = .ok (.invokevirtual 90, 3) := by decide +kernel
theorem dL_law_1116 : decode cL_law 1116 = .ok (.iload 5, 2) := by decide +kernel
theorem dL_law_1118 : decode cL_law 1118 = .ok (.if_icmp .eq 5, 3) := by decide +kernel
theorem dL_law_1121 : decode cL_law 1121 = .ok (.iconst 0, 1) := by decide +kernel
theorem dL_law_1122 : decode cL_law 1122 = .ok (.ireturn, 1) := by decide +kernel
theorem dL_law_1123 : decode cL_law 1123 = .ok (.iload 5, 2) := by decide +kernel
theorem dL_law_1125 : decode cL_law 1125 = .ok (.ifCond .ne 14, 3) := by decide +kernel
theorem dL_law_1128 : decode cL_law 1128 = .ok (.aload_n 3, 1) := by decide +kernel
theorem dL_law_1129 : decode cL_law 1129 = .ok (.iconst 0, 1) := by decide +kernel
theorem dL_law_1130 : decode cL_law 1130 = .ok (.laload, 1) := by decide +kernel
theorem dL_law_1131 : decode cL_law 1131 = .ok (.lload 6, 2) := by decide +kernel
theorem dL_law_1133 : decode cL_law 1133 = .ok (.lcmp, 1) := by decide +kernel
theorem dL_law_1134 : decode cL_law 1134 = .ok (.ifCond .eq 5, 3) := by decide +kernel
theorem dL_law_1137 : decode cL_law 1137 = .ok (.iconst 0, 1) := by decide +kernel
theorem dL_law_1138 : decode cL_law 1138 = .ok (.ireturn, 1) := by decide +kernel
theorem dL_law_1139 : decode cL_law 1139 = .ok (.goto 3, 3) := by decide +kernel
theorem dL_law_1142 : decode cL_law 1142 = .ok (.iinc 4 4, 3) := by decide +kernel
theorem dL_law_1145 : decode cL_law 1145 = .ok (.goto (-1122), 3) := by decide +kernel
theorem dL_law_1148 : decode cL_law 1148 = .ok (.iconst 1, 1) := by decide +kernel
theorem dL_law_1149 : decode cL_law 1149 = .ok (.ireturn, 1) := by decide +kernel
abbrev vwCl : List vw_C := [(RX0, TX0, 5), (RX1, TX1, 3), (RX2, TX2, 4), (RX3, TX3, 7)]
/-- the objects of ListMemory$Collector, kind 0: what each holds, by its address -/
structure wK_O_Collector where
  f_listed : Nat → Option Nat
  f_isListed : Nat → Option Nat
  f_isRest : Nat → Option Nat
  f_newPlaces : Nat → Option Nat
  f_many : Nat → Int32
/-- the objects of ListMemory$Half, kind 1: what each holds, by its address -/
structure wK_O_Half where
  f_codes : Nat → Option Nat
  f_contents : Nat → Option Nat
  f_taken : Nat → Int32
/-- the objects of ListMemory$Matching, kind 2: what each holds, by its address -/
structure wK_O_Matching where
  f_forth : Nat → Option Nat
  f_back : Nat → Option Nat
  f_waiting : Nat → Option Nat
  f_many : Nat → Int32
/-- the objects of ListMemory, kind 3: what each holds, by its address -/
structure wK_O_ListMemory where
  f_roots : Nat → Option Nat
  f_collector : Nat → Option Nat
  f_matching : Nat → Option Nat
  f_counted : Nat → Option Nat
  f_half : Nat → Option Nat
  f_otherHalf : Nat → Option Nat
  f_collections : Nat → Int32
/-- the arrays of kind 4: what each holds, by its address -/
structure wK_R_I where
  len : Nat → Nat
  row : Nat → Nat → Int32
/-- the arrays of kind 5: what each holds, by its address -/
structure wK_R_J where
  len : Nat → Nat
  row : Nat → Nat → Int64
/-- the pool: the addresses, the kind of each, and the kinds -/
structure wPS where
  L : List Nat
  K : Nat → Nat
  O_Collector : wK_O_Collector
  O_Half : wK_O_Half
  O_Matching : wK_O_Matching
  O_ListMemory : wK_O_ListMemory
  R_I : wK_R_I
  R_J : wK_R_J
/-- the empty pool -/
abbrev wP0 : wPS := { L := [], K := (fun _ => 0), O_Collector := { f_listed := (fun _ => none), f_isListed := (fun _ => none), f_isRest := (fun _ => none), f_newPlaces := (fun _ => none), f_many := (fun _ => 0) }, O_Half := { f_codes := (fun _ => none), f_contents := (fun _ => none), f_taken := (fun _ => 0) }, O_Matching := { f_forth := (fun _ => none), f_back := (fun _ => none), f_waiting := (fun _ => none), f_many := (fun _ => 0) }, O_ListMemory := { f_roots := (fun _ => none), f_collector := (fun _ => none), f_matching := (fun _ => none), f_counted := (fun _ => none), f_half := (fun _ => none), f_otherHalf := (fun _ => none), f_collections := (fun _ => 0) }, R_I := { len := (fun _ => 0), row := (fun _ _ => 0) }, R_J := { len := (fun _ => 0), row := (fun _ _ => 0) } }
/-- the pool's rows by their kinds -/
abbrev wPF (cyI : ClassId) (cyJ : ClassId) (S : wPS) : Nat → va_E := fun a => if S.K a = 0 then .inr (0, [va_rf (S.O_Collector.f_listed a), va_rf (S.O_Collector.f_isListed a), va_rf (S.O_Collector.f_isRest a), va_rf (S.O_Collector.f_newPlaces a), .int (S.O_Collector.f_many a)]) else if S.K a = 1 then .inr (1, [va_rf (S.O_Half.f_codes a), va_rf (S.O_Half.f_contents a), .int (S.O_Half.f_taken a)]) else if S.K a = 2 then .inr (2, [va_rf (S.O_Matching.f_forth a), va_rf (S.O_Matching.f_back a), va_rf (S.O_Matching.f_waiting a), .int (S.O_Matching.f_many a)]) else if S.K a = 3 then .inr (3, [va_rf (S.O_ListMemory.f_roots a), va_rf (S.O_ListMemory.f_collector a), va_rf (S.O_ListMemory.f_matching a), va_rf (S.O_ListMemory.f_counted a), va_rf (S.O_ListMemory.f_half a), va_rf (S.O_ListMemory.f_otherHalf a), .int (S.O_ListMemory.f_collections a)]) else if S.K a = 4 then .inl (cyI, S.R_I.len a, .inl (S.R_I.row a)) else .inl (cyJ, S.R_J.len a, .inr (.inl (S.R_J.row a)))
theorem wAt_O_Collector (cyI : ClassId) (cyJ : ClassId) (S : wPS) {a : Nat} (h : S.K a = 0) : wPF cyI cyJ S a = .inr (0, [va_rf (S.O_Collector.f_listed a), va_rf (S.O_Collector.f_isListed a), va_rf (S.O_Collector.f_isRest a), va_rf (S.O_Collector.f_newPlaces a), .int (S.O_Collector.f_many a)]) := by simp [wPF, h]
theorem wGt_O_Collector (cyI : ClassId) (cyJ : ClassId) (X : va_W) (S : wPS) {a : Nat} (hL : a ∈ S.L) (h : S.K a = 0) : ∃ k : Nat, (X ++ va_pl S.L (wPF cyI cyJ S))[k]? = some (a, wPF cyI cyJ S a) ∧ (X ++ va_pl S.L (wPF cyI cyJ S))[k]? = some (a, .inr (0, [va_rf (S.O_Collector.f_listed a), va_rf (S.O_Collector.f_isListed a), va_rf (S.O_Collector.f_isRest a), va_rf (S.O_Collector.f_newPlaces a), .int (S.O_Collector.f_many a)])) := by
  obtain ⟨k, hk⟩ := va_pl_get (X := X) (f := wPF cyI cyJ S) hL
  exact ⟨k, hk, hk.trans (congrArg (fun e => some (a, e)) (wAt_O_Collector cyI cyJ S h))⟩
theorem wSt_O_Collector_f_listed (cyI : ClassId) (cyJ : ClassId) (S : wPS) {a : Nat} (h : S.K a = 0) (v : Option Nat) (b : Nat) : va_up (wPF cyI cyJ S) a (.inr (0, [va_rf v, va_rf (S.O_Collector.f_isListed a), va_rf (S.O_Collector.f_isRest a), va_rf (S.O_Collector.f_newPlaces a), .int (S.O_Collector.f_many a)])) b = wPF cyI cyJ { S with O_Collector := { S.O_Collector with f_listed := va_up S.O_Collector.f_listed a v } } b := by by_cases hb : b = a <;> first | (simp only [wPF, va_up_ne _ _ hb]; done) | (simp only [wPF, va_up, if_neg hb]; done) | simp [wPF, va_re, va_up, va_rf, hb, h]
theorem wPu_O_Collector_f_listed (cyI : ClassId) (cyJ : ClassId) (X : va_W) (S : wPS) {A : Nat → Prop} {a k : Nat} (hD : va_D A (X ++ va_pl S.L (wPF cyI cyJ S))) (hL : a ∈ S.L) (h : S.K a = 0) (hk : (X ++ va_pl S.L (wPF cyI cyJ S))[k]? = some (a, wPF cyI cyJ S a)) (v : Option Nat) : (X ++ va_pl S.L (wPF cyI cyJ S)).set k (a, .inr (0, [va_rf v, va_rf (S.O_Collector.f_isListed a), va_rf (S.O_Collector.f_isRest a), va_rf (S.O_Collector.f_newPlaces a), .int (S.O_Collector.f_many a)])) = X ++ va_pl S.L (wPF cyI cyJ { S with O_Collector := { S.O_Collector with f_listed := va_up S.O_Collector.f_listed a v } }) := by
  rw [va_pl_set hD hL hk]
  exact congrArg (fun l => X ++ l) (va_pl_congr (wSt_O_Collector_f_listed cyI cyJ S h v))
theorem wSt_O_Collector_f_isListed (cyI : ClassId) (cyJ : ClassId) (S : wPS) {a : Nat} (h : S.K a = 0) (v : Option Nat) (b : Nat) : va_up (wPF cyI cyJ S) a (.inr (0, [va_rf (S.O_Collector.f_listed a), va_rf v, va_rf (S.O_Collector.f_isRest a), va_rf (S.O_Collector.f_newPlaces a), .int (S.O_Collector.f_many a)])) b = wPF cyI cyJ { S with O_Collector := { S.O_Collector with f_isListed := va_up S.O_Collector.f_isListed a v } } b := by by_cases hb : b = a <;> first | (simp only [wPF, va_up_ne _ _ hb]; done) | (simp only [wPF, va_up, if_neg hb]; done) | simp [wPF, va_re, va_up, va_rf, hb, h]
theorem wPu_O_Collector_f_isListed (cyI : ClassId) (cyJ : ClassId) (X : va_W) (S : wPS) {A : Nat → Prop} {a k : Nat} (hD : va_D A (X ++ va_pl S.L (wPF cyI cyJ S))) (hL : a ∈ S.L) (h : S.K a = 0) (hk : (X ++ va_pl S.L (wPF cyI cyJ S))[k]? = some (a, wPF cyI cyJ S a)) (v : Option Nat) : (X ++ va_pl S.L (wPF cyI cyJ S)).set k (a, .inr (0, [va_rf (S.O_Collector.f_listed a), va_rf v, va_rf (S.O_Collector.f_isRest a), va_rf (S.O_Collector.f_newPlaces a), .int (S.O_Collector.f_many a)])) = X ++ va_pl S.L (wPF cyI cyJ { S with O_Collector := { S.O_Collector with f_isListed := va_up S.O_Collector.f_isListed a v } }) := by
  rw [va_pl_set hD hL hk]
  exact congrArg (fun l => X ++ l) (va_pl_congr (wSt_O_Collector_f_isListed cyI cyJ S h v))
theorem wSt_O_Collector_f_isRest (cyI : ClassId) (cyJ : ClassId) (S : wPS) {a : Nat} (h : S.K a = 0) (v : Option Nat) (b : Nat) : va_up (wPF cyI cyJ S) a (.inr (0, [va_rf (S.O_Collector.f_listed a), va_rf (S.O_Collector.f_isListed a), va_rf v, va_rf (S.O_Collector.f_newPlaces a), .int (S.O_Collector.f_many a)])) b = wPF cyI cyJ { S with O_Collector := { S.O_Collector with f_isRest := va_up S.O_Collector.f_isRest a v } } b := by by_cases hb : b = a <;> first | (simp only [wPF, va_up_ne _ _ hb]; done) | (simp only [wPF, va_up, if_neg hb]; done) | simp [wPF, va_re, va_up, va_rf, hb, h]
theorem wPu_O_Collector_f_isRest (cyI : ClassId) (cyJ : ClassId) (X : va_W) (S : wPS) {A : Nat → Prop} {a k : Nat} (hD : va_D A (X ++ va_pl S.L (wPF cyI cyJ S))) (hL : a ∈ S.L) (h : S.K a = 0) (hk : (X ++ va_pl S.L (wPF cyI cyJ S))[k]? = some (a, wPF cyI cyJ S a)) (v : Option Nat) : (X ++ va_pl S.L (wPF cyI cyJ S)).set k (a, .inr (0, [va_rf (S.O_Collector.f_listed a), va_rf (S.O_Collector.f_isListed a), va_rf v, va_rf (S.O_Collector.f_newPlaces a), .int (S.O_Collector.f_many a)])) = X ++ va_pl S.L (wPF cyI cyJ { S with O_Collector := { S.O_Collector with f_isRest := va_up S.O_Collector.f_isRest a v } }) := by
  rw [va_pl_set hD hL hk]
  exact congrArg (fun l => X ++ l) (va_pl_congr (wSt_O_Collector_f_isRest cyI cyJ S h v))
theorem wSt_O_Collector_f_newPlaces (cyI : ClassId) (cyJ : ClassId) (S : wPS) {a : Nat} (h : S.K a = 0) (v : Option Nat) (b : Nat) : va_up (wPF cyI cyJ S) a (.inr (0, [va_rf (S.O_Collector.f_listed a), va_rf (S.O_Collector.f_isListed a), va_rf (S.O_Collector.f_isRest a), va_rf v, .int (S.O_Collector.f_many a)])) b = wPF cyI cyJ { S with O_Collector := { S.O_Collector with f_newPlaces := va_up S.O_Collector.f_newPlaces a v } } b := by by_cases hb : b = a <;> first | (simp only [wPF, va_up_ne _ _ hb]; done) | (simp only [wPF, va_up, if_neg hb]; done) | simp [wPF, va_re, va_up, va_rf, hb, h]
theorem wPu_O_Collector_f_newPlaces (cyI : ClassId) (cyJ : ClassId) (X : va_W) (S : wPS) {A : Nat → Prop} {a k : Nat} (hD : va_D A (X ++ va_pl S.L (wPF cyI cyJ S))) (hL : a ∈ S.L) (h : S.K a = 0) (hk : (X ++ va_pl S.L (wPF cyI cyJ S))[k]? = some (a, wPF cyI cyJ S a)) (v : Option Nat) : (X ++ va_pl S.L (wPF cyI cyJ S)).set k (a, .inr (0, [va_rf (S.O_Collector.f_listed a), va_rf (S.O_Collector.f_isListed a), va_rf (S.O_Collector.f_isRest a), va_rf v, .int (S.O_Collector.f_many a)])) = X ++ va_pl S.L (wPF cyI cyJ { S with O_Collector := { S.O_Collector with f_newPlaces := va_up S.O_Collector.f_newPlaces a v } }) := by
  rw [va_pl_set hD hL hk]
  exact congrArg (fun l => X ++ l) (va_pl_congr (wSt_O_Collector_f_newPlaces cyI cyJ S h v))
theorem wSt_O_Collector_f_many (cyI : ClassId) (cyJ : ClassId) (S : wPS) {a : Nat} (h : S.K a = 0) (v : Int32) (b : Nat) : va_up (wPF cyI cyJ S) a (.inr (0, [va_rf (S.O_Collector.f_listed a), va_rf (S.O_Collector.f_isListed a), va_rf (S.O_Collector.f_isRest a), va_rf (S.O_Collector.f_newPlaces a), .int v])) b = wPF cyI cyJ { S with O_Collector := { S.O_Collector with f_many := va_up S.O_Collector.f_many a v } } b := by by_cases hb : b = a <;> first | (simp only [wPF, va_up_ne _ _ hb]; done) | (simp only [wPF, va_up, if_neg hb]; done) | simp [wPF, va_re, va_up, va_rf, hb, h]
theorem wPu_O_Collector_f_many (cyI : ClassId) (cyJ : ClassId) (X : va_W) (S : wPS) {A : Nat → Prop} {a k : Nat} (hD : va_D A (X ++ va_pl S.L (wPF cyI cyJ S))) (hL : a ∈ S.L) (h : S.K a = 0) (hk : (X ++ va_pl S.L (wPF cyI cyJ S))[k]? = some (a, wPF cyI cyJ S a)) (v : Int32) : (X ++ va_pl S.L (wPF cyI cyJ S)).set k (a, .inr (0, [va_rf (S.O_Collector.f_listed a), va_rf (S.O_Collector.f_isListed a), va_rf (S.O_Collector.f_isRest a), va_rf (S.O_Collector.f_newPlaces a), .int v])) = X ++ va_pl S.L (wPF cyI cyJ { S with O_Collector := { S.O_Collector with f_many := va_up S.O_Collector.f_many a v } }) := by
  rw [va_pl_set hD hL hk]
  exact congrArg (fun l => X ++ l) (va_pl_congr (wSt_O_Collector_f_many cyI cyJ S h v))
theorem wNw_O_Collector (cyI : ClassId) (cyJ : ClassId) (S : wPS) (a b : Nat) : va_up (wPF cyI cyJ S) a (.inr (0, [.null, .null, .null, .null, .int 0])) b = wPF cyI cyJ { S with L := S.L ++ [a], K := va_up S.K a 0, O_Collector := { f_listed := va_up S.O_Collector.f_listed a none, f_isListed := va_up S.O_Collector.f_isListed a none, f_isRest := va_up S.O_Collector.f_isRest a none, f_newPlaces := va_up S.O_Collector.f_newPlaces a none, f_many := va_up S.O_Collector.f_many a 0 } } b := by by_cases hb : b = a <;> first | (simp only [wPF, va_up_ne _ _ hb]; done) | (simp only [wPF, va_up, if_neg hb]; done) | simp [wPF, va_re, va_up, va_rf, hb]
theorem wPn_O_Collector (cyI : ClassId) (cyJ : ClassId) (X : va_W) (S : wPS) {a : Nat} (ha : a ∉ S.L) : (X ++ va_pl S.L (wPF cyI cyJ S)) ++ [(a, .inr (0, [.null, .null, .null, .null, .int 0]))] = X ++ va_pl (S.L ++ [a]) (wPF cyI cyJ { S with L := S.L ++ [a], K := va_up S.K a 0, O_Collector := { f_listed := va_up S.O_Collector.f_listed a none, f_isListed := va_up S.O_Collector.f_isListed a none, f_isRest := va_up S.O_Collector.f_isRest a none, f_newPlaces := va_up S.O_Collector.f_newPlaces a none, f_many := va_up S.O_Collector.f_many a 0 } }) := by
  rw [List.append_assoc, va_pl_push ha]
  exact congrArg (fun l => X ++ l) (va_pl_congr (wNw_O_Collector cyI cyJ S a))
theorem wAt_O_Half (cyI : ClassId) (cyJ : ClassId) (S : wPS) {a : Nat} (h : S.K a = 1) : wPF cyI cyJ S a = .inr (1, [va_rf (S.O_Half.f_codes a), va_rf (S.O_Half.f_contents a), .int (S.O_Half.f_taken a)]) := by simp [wPF, h]
theorem wGt_O_Half (cyI : ClassId) (cyJ : ClassId) (X : va_W) (S : wPS) {a : Nat} (hL : a ∈ S.L) (h : S.K a = 1) : ∃ k : Nat, (X ++ va_pl S.L (wPF cyI cyJ S))[k]? = some (a, wPF cyI cyJ S a) ∧ (X ++ va_pl S.L (wPF cyI cyJ S))[k]? = some (a, .inr (1, [va_rf (S.O_Half.f_codes a), va_rf (S.O_Half.f_contents a), .int (S.O_Half.f_taken a)])) := by
  obtain ⟨k, hk⟩ := va_pl_get (X := X) (f := wPF cyI cyJ S) hL
  exact ⟨k, hk, hk.trans (congrArg (fun e => some (a, e)) (wAt_O_Half cyI cyJ S h))⟩
theorem wSt_O_Half_f_codes (cyI : ClassId) (cyJ : ClassId) (S : wPS) {a : Nat} (h : S.K a = 1) (v : Option Nat) (b : Nat) : va_up (wPF cyI cyJ S) a (.inr (1, [va_rf v, va_rf (S.O_Half.f_contents a), .int (S.O_Half.f_taken a)])) b = wPF cyI cyJ { S with O_Half := { S.O_Half with f_codes := va_up S.O_Half.f_codes a v } } b := by by_cases hb : b = a <;> first | (simp only [wPF, va_up_ne _ _ hb]; done) | (simp only [wPF, va_up, if_neg hb]; done) | simp [wPF, va_re, va_up, va_rf, hb, h]
theorem wPu_O_Half_f_codes (cyI : ClassId) (cyJ : ClassId) (X : va_W) (S : wPS) {A : Nat → Prop} {a k : Nat} (hD : va_D A (X ++ va_pl S.L (wPF cyI cyJ S))) (hL : a ∈ S.L) (h : S.K a = 1) (hk : (X ++ va_pl S.L (wPF cyI cyJ S))[k]? = some (a, wPF cyI cyJ S a)) (v : Option Nat) : (X ++ va_pl S.L (wPF cyI cyJ S)).set k (a, .inr (1, [va_rf v, va_rf (S.O_Half.f_contents a), .int (S.O_Half.f_taken a)])) = X ++ va_pl S.L (wPF cyI cyJ { S with O_Half := { S.O_Half with f_codes := va_up S.O_Half.f_codes a v } }) := by
  rw [va_pl_set hD hL hk]
  exact congrArg (fun l => X ++ l) (va_pl_congr (wSt_O_Half_f_codes cyI cyJ S h v))
theorem wSt_O_Half_f_contents (cyI : ClassId) (cyJ : ClassId) (S : wPS) {a : Nat} (h : S.K a = 1) (v : Option Nat) (b : Nat) : va_up (wPF cyI cyJ S) a (.inr (1, [va_rf (S.O_Half.f_codes a), va_rf v, .int (S.O_Half.f_taken a)])) b = wPF cyI cyJ { S with O_Half := { S.O_Half with f_contents := va_up S.O_Half.f_contents a v } } b := by by_cases hb : b = a <;> first | (simp only [wPF, va_up_ne _ _ hb]; done) | (simp only [wPF, va_up, if_neg hb]; done) | simp [wPF, va_re, va_up, va_rf, hb, h]
theorem wPu_O_Half_f_contents (cyI : ClassId) (cyJ : ClassId) (X : va_W) (S : wPS) {A : Nat → Prop} {a k : Nat} (hD : va_D A (X ++ va_pl S.L (wPF cyI cyJ S))) (hL : a ∈ S.L) (h : S.K a = 1) (hk : (X ++ va_pl S.L (wPF cyI cyJ S))[k]? = some (a, wPF cyI cyJ S a)) (v : Option Nat) : (X ++ va_pl S.L (wPF cyI cyJ S)).set k (a, .inr (1, [va_rf (S.O_Half.f_codes a), va_rf v, .int (S.O_Half.f_taken a)])) = X ++ va_pl S.L (wPF cyI cyJ { S with O_Half := { S.O_Half with f_contents := va_up S.O_Half.f_contents a v } }) := by
  rw [va_pl_set hD hL hk]
  exact congrArg (fun l => X ++ l) (va_pl_congr (wSt_O_Half_f_contents cyI cyJ S h v))
theorem wSt_O_Half_f_taken (cyI : ClassId) (cyJ : ClassId) (S : wPS) {a : Nat} (h : S.K a = 1) (v : Int32) (b : Nat) : va_up (wPF cyI cyJ S) a (.inr (1, [va_rf (S.O_Half.f_codes a), va_rf (S.O_Half.f_contents a), .int v])) b = wPF cyI cyJ { S with O_Half := { S.O_Half with f_taken := va_up S.O_Half.f_taken a v } } b := by by_cases hb : b = a <;> first | (simp only [wPF, va_up_ne _ _ hb]; done) | (simp only [wPF, va_up, if_neg hb]; done) | simp [wPF, va_re, va_up, va_rf, hb, h]
theorem wPu_O_Half_f_taken (cyI : ClassId) (cyJ : ClassId) (X : va_W) (S : wPS) {A : Nat → Prop} {a k : Nat} (hD : va_D A (X ++ va_pl S.L (wPF cyI cyJ S))) (hL : a ∈ S.L) (h : S.K a = 1) (hk : (X ++ va_pl S.L (wPF cyI cyJ S))[k]? = some (a, wPF cyI cyJ S a)) (v : Int32) : (X ++ va_pl S.L (wPF cyI cyJ S)).set k (a, .inr (1, [va_rf (S.O_Half.f_codes a), va_rf (S.O_Half.f_contents a), .int v])) = X ++ va_pl S.L (wPF cyI cyJ { S with O_Half := { S.O_Half with f_taken := va_up S.O_Half.f_taken a v } }) := by
  rw [va_pl_set hD hL hk]
  exact congrArg (fun l => X ++ l) (va_pl_congr (wSt_O_Half_f_taken cyI cyJ S h v))
theorem wNw_O_Half (cyI : ClassId) (cyJ : ClassId) (S : wPS) (a b : Nat) : va_up (wPF cyI cyJ S) a (.inr (1, [.null, .null, .int 0])) b = wPF cyI cyJ { S with L := S.L ++ [a], K := va_up S.K a 1, O_Half := { f_codes := va_up S.O_Half.f_codes a none, f_contents := va_up S.O_Half.f_contents a none, f_taken := va_up S.O_Half.f_taken a 0 } } b := by by_cases hb : b = a <;> first | (simp only [wPF, va_up_ne _ _ hb]; done) | (simp only [wPF, va_up, if_neg hb]; done) | simp [wPF, va_re, va_up, va_rf, hb]
theorem wPn_O_Half (cyI : ClassId) (cyJ : ClassId) (X : va_W) (S : wPS) {a : Nat} (ha : a ∉ S.L) : (X ++ va_pl S.L (wPF cyI cyJ S)) ++ [(a, .inr (1, [.null, .null, .int 0]))] = X ++ va_pl (S.L ++ [a]) (wPF cyI cyJ { S with L := S.L ++ [a], K := va_up S.K a 1, O_Half := { f_codes := va_up S.O_Half.f_codes a none, f_contents := va_up S.O_Half.f_contents a none, f_taken := va_up S.O_Half.f_taken a 0 } }) := by
  rw [List.append_assoc, va_pl_push ha]
  exact congrArg (fun l => X ++ l) (va_pl_congr (wNw_O_Half cyI cyJ S a))
theorem wAt_O_Matching (cyI : ClassId) (cyJ : ClassId) (S : wPS) {a : Nat} (h : S.K a = 2) : wPF cyI cyJ S a = .inr (2, [va_rf (S.O_Matching.f_forth a), va_rf (S.O_Matching.f_back a), va_rf (S.O_Matching.f_waiting a), .int (S.O_Matching.f_many a)]) := by simp [wPF, h]
theorem wGt_O_Matching (cyI : ClassId) (cyJ : ClassId) (X : va_W) (S : wPS) {a : Nat} (hL : a ∈ S.L) (h : S.K a = 2) : ∃ k : Nat, (X ++ va_pl S.L (wPF cyI cyJ S))[k]? = some (a, wPF cyI cyJ S a) ∧ (X ++ va_pl S.L (wPF cyI cyJ S))[k]? = some (a, .inr (2, [va_rf (S.O_Matching.f_forth a), va_rf (S.O_Matching.f_back a), va_rf (S.O_Matching.f_waiting a), .int (S.O_Matching.f_many a)])) := by
  obtain ⟨k, hk⟩ := va_pl_get (X := X) (f := wPF cyI cyJ S) hL
  exact ⟨k, hk, hk.trans (congrArg (fun e => some (a, e)) (wAt_O_Matching cyI cyJ S h))⟩
theorem wSt_O_Matching_f_forth (cyI : ClassId) (cyJ : ClassId) (S : wPS) {a : Nat} (h : S.K a = 2) (v : Option Nat) (b : Nat) : va_up (wPF cyI cyJ S) a (.inr (2, [va_rf v, va_rf (S.O_Matching.f_back a), va_rf (S.O_Matching.f_waiting a), .int (S.O_Matching.f_many a)])) b = wPF cyI cyJ { S with O_Matching := { S.O_Matching with f_forth := va_up S.O_Matching.f_forth a v } } b := by by_cases hb : b = a <;> first | (simp only [wPF, va_up_ne _ _ hb]; done) | (simp only [wPF, va_up, if_neg hb]; done) | simp [wPF, va_re, va_up, va_rf, hb, h]
theorem wPu_O_Matching_f_forth (cyI : ClassId) (cyJ : ClassId) (X : va_W) (S : wPS) {A : Nat → Prop} {a k : Nat} (hD : va_D A (X ++ va_pl S.L (wPF cyI cyJ S))) (hL : a ∈ S.L) (h : S.K a = 2) (hk : (X ++ va_pl S.L (wPF cyI cyJ S))[k]? = some (a, wPF cyI cyJ S a)) (v : Option Nat) : (X ++ va_pl S.L (wPF cyI cyJ S)).set k (a, .inr (2, [va_rf v, va_rf (S.O_Matching.f_back a), va_rf (S.O_Matching.f_waiting a), .int (S.O_Matching.f_many a)])) = X ++ va_pl S.L (wPF cyI cyJ { S with O_Matching := { S.O_Matching with f_forth := va_up S.O_Matching.f_forth a v } }) := by
  rw [va_pl_set hD hL hk]
  exact congrArg (fun l => X ++ l) (va_pl_congr (wSt_O_Matching_f_forth cyI cyJ S h v))
theorem wSt_O_Matching_f_back (cyI : ClassId) (cyJ : ClassId) (S : wPS) {a : Nat} (h : S.K a = 2) (v : Option Nat) (b : Nat) : va_up (wPF cyI cyJ S) a (.inr (2, [va_rf (S.O_Matching.f_forth a), va_rf v, va_rf (S.O_Matching.f_waiting a), .int (S.O_Matching.f_many a)])) b = wPF cyI cyJ { S with O_Matching := { S.O_Matching with f_back := va_up S.O_Matching.f_back a v } } b := by by_cases hb : b = a <;> first | (simp only [wPF, va_up_ne _ _ hb]; done) | (simp only [wPF, va_up, if_neg hb]; done) | simp [wPF, va_re, va_up, va_rf, hb, h]
theorem wPu_O_Matching_f_back (cyI : ClassId) (cyJ : ClassId) (X : va_W) (S : wPS) {A : Nat → Prop} {a k : Nat} (hD : va_D A (X ++ va_pl S.L (wPF cyI cyJ S))) (hL : a ∈ S.L) (h : S.K a = 2) (hk : (X ++ va_pl S.L (wPF cyI cyJ S))[k]? = some (a, wPF cyI cyJ S a)) (v : Option Nat) : (X ++ va_pl S.L (wPF cyI cyJ S)).set k (a, .inr (2, [va_rf (S.O_Matching.f_forth a), va_rf v, va_rf (S.O_Matching.f_waiting a), .int (S.O_Matching.f_many a)])) = X ++ va_pl S.L (wPF cyI cyJ { S with O_Matching := { S.O_Matching with f_back := va_up S.O_Matching.f_back a v } }) := by
  rw [va_pl_set hD hL hk]
  exact congrArg (fun l => X ++ l) (va_pl_congr (wSt_O_Matching_f_back cyI cyJ S h v))
theorem wSt_O_Matching_f_waiting (cyI : ClassId) (cyJ : ClassId) (S : wPS) {a : Nat} (h : S.K a = 2) (v : Option Nat) (b : Nat) : va_up (wPF cyI cyJ S) a (.inr (2, [va_rf (S.O_Matching.f_forth a), va_rf (S.O_Matching.f_back a), va_rf v, .int (S.O_Matching.f_many a)])) b = wPF cyI cyJ { S with O_Matching := { S.O_Matching with f_waiting := va_up S.O_Matching.f_waiting a v } } b := by by_cases hb : b = a <;> first | (simp only [wPF, va_up_ne _ _ hb]; done) | (simp only [wPF, va_up, if_neg hb]; done) | simp [wPF, va_re, va_up, va_rf, hb, h]
theorem wPu_O_Matching_f_waiting (cyI : ClassId) (cyJ : ClassId) (X : va_W) (S : wPS) {A : Nat → Prop} {a k : Nat} (hD : va_D A (X ++ va_pl S.L (wPF cyI cyJ S))) (hL : a ∈ S.L) (h : S.K a = 2) (hk : (X ++ va_pl S.L (wPF cyI cyJ S))[k]? = some (a, wPF cyI cyJ S a)) (v : Option Nat) : (X ++ va_pl S.L (wPF cyI cyJ S)).set k (a, .inr (2, [va_rf (S.O_Matching.f_forth a), va_rf (S.O_Matching.f_back a), va_rf v, .int (S.O_Matching.f_many a)])) = X ++ va_pl S.L (wPF cyI cyJ { S with O_Matching := { S.O_Matching with f_waiting := va_up S.O_Matching.f_waiting a v } }) := by
  rw [va_pl_set hD hL hk]
  exact congrArg (fun l => X ++ l) (va_pl_congr (wSt_O_Matching_f_waiting cyI cyJ S h v))
theorem wSt_O_Matching_f_many (cyI : ClassId) (cyJ : ClassId) (S : wPS) {a : Nat} (h : S.K a = 2) (v : Int32) (b : Nat) : va_up (wPF cyI cyJ S) a (.inr (2, [va_rf (S.O_Matching.f_forth a), va_rf (S.O_Matching.f_back a), va_rf (S.O_Matching.f_waiting a), .int v])) b = wPF cyI cyJ { S with O_Matching := { S.O_Matching with f_many := va_up S.O_Matching.f_many a v } } b := by by_cases hb : b = a <;> first | (simp only [wPF, va_up_ne _ _ hb]; done) | (simp only [wPF, va_up, if_neg hb]; done) | simp [wPF, va_re, va_up, va_rf, hb, h]
theorem wPu_O_Matching_f_many (cyI : ClassId) (cyJ : ClassId) (X : va_W) (S : wPS) {A : Nat → Prop} {a k : Nat} (hD : va_D A (X ++ va_pl S.L (wPF cyI cyJ S))) (hL : a ∈ S.L) (h : S.K a = 2) (hk : (X ++ va_pl S.L (wPF cyI cyJ S))[k]? = some (a, wPF cyI cyJ S a)) (v : Int32) : (X ++ va_pl S.L (wPF cyI cyJ S)).set k (a, .inr (2, [va_rf (S.O_Matching.f_forth a), va_rf (S.O_Matching.f_back a), va_rf (S.O_Matching.f_waiting a), .int v])) = X ++ va_pl S.L (wPF cyI cyJ { S with O_Matching := { S.O_Matching with f_many := va_up S.O_Matching.f_many a v } }) := by
  rw [va_pl_set hD hL hk]
  exact congrArg (fun l => X ++ l) (va_pl_congr (wSt_O_Matching_f_many cyI cyJ S h v))
theorem wNw_O_Matching (cyI : ClassId) (cyJ : ClassId) (S : wPS) (a b : Nat) : va_up (wPF cyI cyJ S) a (.inr (2, [.null, .null, .null, .int 0])) b = wPF cyI cyJ { S with L := S.L ++ [a], K := va_up S.K a 2, O_Matching := { f_forth := va_up S.O_Matching.f_forth a none, f_back := va_up S.O_Matching.f_back a none, f_waiting := va_up S.O_Matching.f_waiting a none, f_many := va_up S.O_Matching.f_many a 0 } } b := by by_cases hb : b = a <;> first | (simp only [wPF, va_up_ne _ _ hb]; done) | (simp only [wPF, va_up, if_neg hb]; done) | simp [wPF, va_re, va_up, va_rf, hb]
theorem wPn_O_Matching (cyI : ClassId) (cyJ : ClassId) (X : va_W) (S : wPS) {a : Nat} (ha : a ∉ S.L) : (X ++ va_pl S.L (wPF cyI cyJ S)) ++ [(a, .inr (2, [.null, .null, .null, .int 0]))] = X ++ va_pl (S.L ++ [a]) (wPF cyI cyJ { S with L := S.L ++ [a], K := va_up S.K a 2, O_Matching := { f_forth := va_up S.O_Matching.f_forth a none, f_back := va_up S.O_Matching.f_back a none, f_waiting := va_up S.O_Matching.f_waiting a none, f_many := va_up S.O_Matching.f_many a 0 } }) := by
  rw [List.append_assoc, va_pl_push ha]
  exact congrArg (fun l => X ++ l) (va_pl_congr (wNw_O_Matching cyI cyJ S a))
theorem wAt_O_ListMemory (cyI : ClassId) (cyJ : ClassId) (S : wPS) {a : Nat} (h : S.K a = 3) : wPF cyI cyJ S a = .inr (3, [va_rf (S.O_ListMemory.f_roots a), va_rf (S.O_ListMemory.f_collector a), va_rf (S.O_ListMemory.f_matching a), va_rf (S.O_ListMemory.f_counted a), va_rf (S.O_ListMemory.f_half a), va_rf (S.O_ListMemory.f_otherHalf a), .int (S.O_ListMemory.f_collections a)]) := by simp [wPF, h]
theorem wGt_O_ListMemory (cyI : ClassId) (cyJ : ClassId) (X : va_W) (S : wPS) {a : Nat} (hL : a ∈ S.L) (h : S.K a = 3) : ∃ k : Nat, (X ++ va_pl S.L (wPF cyI cyJ S))[k]? = some (a, wPF cyI cyJ S a) ∧ (X ++ va_pl S.L (wPF cyI cyJ S))[k]? = some (a, .inr (3, [va_rf (S.O_ListMemory.f_roots a), va_rf (S.O_ListMemory.f_collector a), va_rf (S.O_ListMemory.f_matching a), va_rf (S.O_ListMemory.f_counted a), va_rf (S.O_ListMemory.f_half a), va_rf (S.O_ListMemory.f_otherHalf a), .int (S.O_ListMemory.f_collections a)])) := by
  obtain ⟨k, hk⟩ := va_pl_get (X := X) (f := wPF cyI cyJ S) hL
  exact ⟨k, hk, hk.trans (congrArg (fun e => some (a, e)) (wAt_O_ListMemory cyI cyJ S h))⟩
theorem wSt_O_ListMemory_f_roots (cyI : ClassId) (cyJ : ClassId) (S : wPS) {a : Nat} (h : S.K a = 3) (v : Option Nat) (b : Nat) : va_up (wPF cyI cyJ S) a (.inr (3, [va_rf v, va_rf (S.O_ListMemory.f_collector a), va_rf (S.O_ListMemory.f_matching a), va_rf (S.O_ListMemory.f_counted a), va_rf (S.O_ListMemory.f_half a), va_rf (S.O_ListMemory.f_otherHalf a), .int (S.O_ListMemory.f_collections a)])) b = wPF cyI cyJ { S with O_ListMemory := { S.O_ListMemory with f_roots := va_up S.O_ListMemory.f_roots a v } } b := by by_cases hb : b = a <;> first | (simp only [wPF, va_up_ne _ _ hb]; done) | (simp only [wPF, va_up, if_neg hb]; done) | simp [wPF, va_re, va_up, va_rf, hb, h]
theorem wPu_O_ListMemory_f_roots (cyI : ClassId) (cyJ : ClassId) (X : va_W) (S : wPS) {A : Nat → Prop} {a k : Nat} (hD : va_D A (X ++ va_pl S.L (wPF cyI cyJ S))) (hL : a ∈ S.L) (h : S.K a = 3) (hk : (X ++ va_pl S.L (wPF cyI cyJ S))[k]? = some (a, wPF cyI cyJ S a)) (v : Option Nat) : (X ++ va_pl S.L (wPF cyI cyJ S)).set k (a, .inr (3, [va_rf v, va_rf (S.O_ListMemory.f_collector a), va_rf (S.O_ListMemory.f_matching a), va_rf (S.O_ListMemory.f_counted a), va_rf (S.O_ListMemory.f_half a), va_rf (S.O_ListMemory.f_otherHalf a), .int (S.O_ListMemory.f_collections a)])) = X ++ va_pl S.L (wPF cyI cyJ { S with O_ListMemory := { S.O_ListMemory with f_roots := va_up S.O_ListMemory.f_roots a v } }) := by
  rw [va_pl_set hD hL hk]
  exact congrArg (fun l => X ++ l) (va_pl_congr (wSt_O_ListMemory_f_roots cyI cyJ S h v))
theorem wSt_O_ListMemory_f_collector (cyI : ClassId) (cyJ : ClassId) (S : wPS) {a : Nat} (h : S.K a = 3) (v : Option Nat) (b : Nat) : va_up (wPF cyI cyJ S) a (.inr (3, [va_rf (S.O_ListMemory.f_roots a), va_rf v, va_rf (S.O_ListMemory.f_matching a), va_rf (S.O_ListMemory.f_counted a), va_rf (S.O_ListMemory.f_half a), va_rf (S.O_ListMemory.f_otherHalf a), .int (S.O_ListMemory.f_collections a)])) b = wPF cyI cyJ { S with O_ListMemory := { S.O_ListMemory with f_collector := va_up S.O_ListMemory.f_collector a v } } b := by by_cases hb : b = a <;> first | (simp only [wPF, va_up_ne _ _ hb]; done) | (simp only [wPF, va_up, if_neg hb]; done) | simp [wPF, va_re, va_up, va_rf, hb, h]
theorem wPu_O_ListMemory_f_collector (cyI : ClassId) (cyJ : ClassId) (X : va_W) (S : wPS) {A : Nat → Prop} {a k : Nat} (hD : va_D A (X ++ va_pl S.L (wPF cyI cyJ S))) (hL : a ∈ S.L) (h : S.K a = 3) (hk : (X ++ va_pl S.L (wPF cyI cyJ S))[k]? = some (a, wPF cyI cyJ S a)) (v : Option Nat) : (X ++ va_pl S.L (wPF cyI cyJ S)).set k (a, .inr (3, [va_rf (S.O_ListMemory.f_roots a), va_rf v, va_rf (S.O_ListMemory.f_matching a), va_rf (S.O_ListMemory.f_counted a), va_rf (S.O_ListMemory.f_half a), va_rf (S.O_ListMemory.f_otherHalf a), .int (S.O_ListMemory.f_collections a)])) = X ++ va_pl S.L (wPF cyI cyJ { S with O_ListMemory := { S.O_ListMemory with f_collector := va_up S.O_ListMemory.f_collector a v } }) := by
  rw [va_pl_set hD hL hk]
  exact congrArg (fun l => X ++ l) (va_pl_congr (wSt_O_ListMemory_f_collector cyI cyJ S h v))
theorem wSt_O_ListMemory_f_matching (cyI : ClassId) (cyJ : ClassId) (S : wPS) {a : Nat} (h : S.K a = 3) (v : Option Nat) (b : Nat) : va_up (wPF cyI cyJ S) a (.inr (3, [va_rf (S.O_ListMemory.f_roots a), va_rf (S.O_ListMemory.f_collector a), va_rf v, va_rf (S.O_ListMemory.f_counted a), va_rf (S.O_ListMemory.f_half a), va_rf (S.O_ListMemory.f_otherHalf a), .int (S.O_ListMemory.f_collections a)])) b = wPF cyI cyJ { S with O_ListMemory := { S.O_ListMemory with f_matching := va_up S.O_ListMemory.f_matching a v } } b := by by_cases hb : b = a <;> first | (simp only [wPF, va_up_ne _ _ hb]; done) | (simp only [wPF, va_up, if_neg hb]; done) | simp [wPF, va_re, va_up, va_rf, hb, h]
theorem wPu_O_ListMemory_f_matching (cyI : ClassId) (cyJ : ClassId) (X : va_W) (S : wPS) {A : Nat → Prop} {a k : Nat} (hD : va_D A (X ++ va_pl S.L (wPF cyI cyJ S))) (hL : a ∈ S.L) (h : S.K a = 3) (hk : (X ++ va_pl S.L (wPF cyI cyJ S))[k]? = some (a, wPF cyI cyJ S a)) (v : Option Nat) : (X ++ va_pl S.L (wPF cyI cyJ S)).set k (a, .inr (3, [va_rf (S.O_ListMemory.f_roots a), va_rf (S.O_ListMemory.f_collector a), va_rf v, va_rf (S.O_ListMemory.f_counted a), va_rf (S.O_ListMemory.f_half a), va_rf (S.O_ListMemory.f_otherHalf a), .int (S.O_ListMemory.f_collections a)])) = X ++ va_pl S.L (wPF cyI cyJ { S with O_ListMemory := { S.O_ListMemory with f_matching := va_up S.O_ListMemory.f_matching a v } }) := by
  rw [va_pl_set hD hL hk]
  exact congrArg (fun l => X ++ l) (va_pl_congr (wSt_O_ListMemory_f_matching cyI cyJ S h v))
theorem wSt_O_ListMemory_f_counted (cyI : ClassId) (cyJ : ClassId) (S : wPS) {a : Nat} (h : S.K a = 3) (v : Option Nat) (b : Nat) : va_up (wPF cyI cyJ S) a (.inr (3, [va_rf (S.O_ListMemory.f_roots a), va_rf (S.O_ListMemory.f_collector a), va_rf (S.O_ListMemory.f_matching a), va_rf v, va_rf (S.O_ListMemory.f_half a), va_rf (S.O_ListMemory.f_otherHalf a), .int (S.O_ListMemory.f_collections a)])) b = wPF cyI cyJ { S with O_ListMemory := { S.O_ListMemory with f_counted := va_up S.O_ListMemory.f_counted a v } } b := by by_cases hb : b = a <;> first | (simp only [wPF, va_up_ne _ _ hb]; done) | (simp only [wPF, va_up, if_neg hb]; done) | simp [wPF, va_re, va_up, va_rf, hb, h]
theorem wPu_O_ListMemory_f_counted (cyI : ClassId) (cyJ : ClassId) (X : va_W) (S : wPS) {A : Nat → Prop} {a k : Nat} (hD : va_D A (X ++ va_pl S.L (wPF cyI cyJ S))) (hL : a ∈ S.L) (h : S.K a = 3) (hk : (X ++ va_pl S.L (wPF cyI cyJ S))[k]? = some (a, wPF cyI cyJ S a)) (v : Option Nat) : (X ++ va_pl S.L (wPF cyI cyJ S)).set k (a, .inr (3, [va_rf (S.O_ListMemory.f_roots a), va_rf (S.O_ListMemory.f_collector a), va_rf (S.O_ListMemory.f_matching a), va_rf v, va_rf (S.O_ListMemory.f_half a), va_rf (S.O_ListMemory.f_otherHalf a), .int (S.O_ListMemory.f_collections a)])) = X ++ va_pl S.L (wPF cyI cyJ { S with O_ListMemory := { S.O_ListMemory with f_counted := va_up S.O_ListMemory.f_counted a v } }) := by
  rw [va_pl_set hD hL hk]
  exact congrArg (fun l => X ++ l) (va_pl_congr (wSt_O_ListMemory_f_counted cyI cyJ S h v))
theorem wSt_O_ListMemory_f_half (cyI : ClassId) (cyJ : ClassId) (S : wPS) {a : Nat} (h : S.K a = 3) (v : Option Nat) (b : Nat) : va_up (wPF cyI cyJ S) a (.inr (3, [va_rf (S.O_ListMemory.f_roots a), va_rf (S.O_ListMemory.f_collector a), va_rf (S.O_ListMemory.f_matching a), va_rf (S.O_ListMemory.f_counted a), va_rf v, va_rf (S.O_ListMemory.f_otherHalf a), .int (S.O_ListMemory.f_collections a)])) b = wPF cyI cyJ { S with O_ListMemory := { S.O_ListMemory with f_half := va_up S.O_ListMemory.f_half a v } } b := by by_cases hb : b = a <;> first | (simp only [wPF, va_up_ne _ _ hb]; done) | (simp only [wPF, va_up, if_neg hb]; done) | simp [wPF, va_re, va_up, va_rf, hb, h]
theorem wPu_O_ListMemory_f_half (cyI : ClassId) (cyJ : ClassId) (X : va_W) (S : wPS) {A : Nat → Prop} {a k : Nat} (hD : va_D A (X ++ va_pl S.L (wPF cyI cyJ S))) (hL : a ∈ S.L) (h : S.K a = 3) (hk : (X ++ va_pl S.L (wPF cyI cyJ S))[k]? = some (a, wPF cyI cyJ S a)) (v : Option Nat) : (X ++ va_pl S.L (wPF cyI cyJ S)).set k (a, .inr (3, [va_rf (S.O_ListMemory.f_roots a), va_rf (S.O_ListMemory.f_collector a), va_rf (S.O_ListMemory.f_matching a), va_rf (S.O_ListMemory.f_counted a), va_rf v, va_rf (S.O_ListMemory.f_otherHalf a), .int (S.O_ListMemory.f_collections a)])) = X ++ va_pl S.L (wPF cyI cyJ { S with O_ListMemory := { S.O_ListMemory with f_half := va_up S.O_ListMemory.f_half a v } }) := by
  rw [va_pl_set hD hL hk]
  exact congrArg (fun l => X ++ l) (va_pl_congr (wSt_O_ListMemory_f_half cyI cyJ S h v))
theorem wSt_O_ListMemory_f_otherHalf (cyI : ClassId) (cyJ : ClassId) (S : wPS) {a : Nat} (h : S.K a = 3) (v : Option Nat) (b : Nat) : va_up (wPF cyI cyJ S) a (.inr (3, [va_rf (S.O_ListMemory.f_roots a), va_rf (S.O_ListMemory.f_collector a), va_rf (S.O_ListMemory.f_matching a), va_rf (S.O_ListMemory.f_counted a), va_rf (S.O_ListMemory.f_half a), va_rf v, .int (S.O_ListMemory.f_collections a)])) b = wPF cyI cyJ { S with O_ListMemory := { S.O_ListMemory with f_otherHalf := va_up S.O_ListMemory.f_otherHalf a v } } b := by by_cases hb : b = a <;> first | (simp only [wPF, va_up_ne _ _ hb]; done) | (simp only [wPF, va_up, if_neg hb]; done) | simp [wPF, va_re, va_up, va_rf, hb, h]
theorem wPu_O_ListMemory_f_otherHalf (cyI : ClassId) (cyJ : ClassId) (X : va_W) (S : wPS) {A : Nat → Prop} {a k : Nat} (hD : va_D A (X ++ va_pl S.L (wPF cyI cyJ S))) (hL : a ∈ S.L) (h : S.K a = 3) (hk : (X ++ va_pl S.L (wPF cyI cyJ S))[k]? = some (a, wPF cyI cyJ S a)) (v : Option Nat) : (X ++ va_pl S.L (wPF cyI cyJ S)).set k (a, .inr (3, [va_rf (S.O_ListMemory.f_roots a), va_rf (S.O_ListMemory.f_collector a), va_rf (S.O_ListMemory.f_matching a), va_rf (S.O_ListMemory.f_counted a), va_rf (S.O_ListMemory.f_half a), va_rf v, .int (S.O_ListMemory.f_collections a)])) = X ++ va_pl S.L (wPF cyI cyJ { S with O_ListMemory := { S.O_ListMemory with f_otherHalf := va_up S.O_ListMemory.f_otherHalf a v } }) := by
  rw [va_pl_set hD hL hk]
  exact congrArg (fun l => X ++ l) (va_pl_congr (wSt_O_ListMemory_f_otherHalf cyI cyJ S h v))
theorem wSt_O_ListMemory_f_collections (cyI : ClassId) (cyJ : ClassId) (S : wPS) {a : Nat} (h : S.K a = 3) (v : Int32) (b : Nat) : va_up (wPF cyI cyJ S) a (.inr (3, [va_rf (S.O_ListMemory.f_roots a), va_rf (S.O_ListMemory.f_collector a), va_rf (S.O_ListMemory.f_matching a), va_rf (S.O_ListMemory.f_counted a), va_rf (S.O_ListMemory.f_half a), va_rf (S.O_ListMemory.f_otherHalf a), .int v])) b = wPF cyI cyJ { S with O_ListMemory := { S.O_ListMemory with f_collections := va_up S.O_ListMemory.f_collections a v } } b := by by_cases hb : b = a <;> first | (simp only [wPF, va_up_ne _ _ hb]; done) | (simp only [wPF, va_up, if_neg hb]; done) | simp [wPF, va_re, va_up, va_rf, hb, h]
theorem wPu_O_ListMemory_f_collections (cyI : ClassId) (cyJ : ClassId) (X : va_W) (S : wPS) {A : Nat → Prop} {a k : Nat} (hD : va_D A (X ++ va_pl S.L (wPF cyI cyJ S))) (hL : a ∈ S.L) (h : S.K a = 3) (hk : (X ++ va_pl S.L (wPF cyI cyJ S))[k]? = some (a, wPF cyI cyJ S a)) (v : Int32) : (X ++ va_pl S.L (wPF cyI cyJ S)).set k (a, .inr (3, [va_rf (S.O_ListMemory.f_roots a), va_rf (S.O_ListMemory.f_collector a), va_rf (S.O_ListMemory.f_matching a), va_rf (S.O_ListMemory.f_counted a), va_rf (S.O_ListMemory.f_half a), va_rf (S.O_ListMemory.f_otherHalf a), .int v])) = X ++ va_pl S.L (wPF cyI cyJ { S with O_ListMemory := { S.O_ListMemory with f_collections := va_up S.O_ListMemory.f_collections a v } }) := by
  rw [va_pl_set hD hL hk]
  exact congrArg (fun l => X ++ l) (va_pl_congr (wSt_O_ListMemory_f_collections cyI cyJ S h v))
theorem wNw_O_ListMemory (cyI : ClassId) (cyJ : ClassId) (S : wPS) (a b : Nat) : va_up (wPF cyI cyJ S) a (.inr (3, [.null, .null, .null, .null, .null, .null, .int 0])) b = wPF cyI cyJ { S with L := S.L ++ [a], K := va_up S.K a 3, O_ListMemory := { f_roots := va_up S.O_ListMemory.f_roots a none, f_collector := va_up S.O_ListMemory.f_collector a none, f_matching := va_up S.O_ListMemory.f_matching a none, f_counted := va_up S.O_ListMemory.f_counted a none, f_half := va_up S.O_ListMemory.f_half a none, f_otherHalf := va_up S.O_ListMemory.f_otherHalf a none, f_collections := va_up S.O_ListMemory.f_collections a 0 } } b := by by_cases hb : b = a <;> first | (simp only [wPF, va_up_ne _ _ hb]; done) | (simp only [wPF, va_up, if_neg hb]; done) | simp [wPF, va_re, va_up, va_rf, hb]
theorem wPn_O_ListMemory (cyI : ClassId) (cyJ : ClassId) (X : va_W) (S : wPS) {a : Nat} (ha : a ∉ S.L) : (X ++ va_pl S.L (wPF cyI cyJ S)) ++ [(a, .inr (3, [.null, .null, .null, .null, .null, .null, .int 0]))] = X ++ va_pl (S.L ++ [a]) (wPF cyI cyJ { S with L := S.L ++ [a], K := va_up S.K a 3, O_ListMemory := { f_roots := va_up S.O_ListMemory.f_roots a none, f_collector := va_up S.O_ListMemory.f_collector a none, f_matching := va_up S.O_ListMemory.f_matching a none, f_counted := va_up S.O_ListMemory.f_counted a none, f_half := va_up S.O_ListMemory.f_half a none, f_otherHalf := va_up S.O_ListMemory.f_otherHalf a none, f_collections := va_up S.O_ListMemory.f_collections a 0 } }) := by
  rw [List.append_assoc, va_pl_push ha]
  exact congrArg (fun l => X ++ l) (va_pl_congr (wNw_O_ListMemory cyI cyJ S a))
theorem wAt_R_I (cyI : ClassId) (cyJ : ClassId) (S : wPS) {a : Nat} (h : S.K a = 4) : wPF cyI cyJ S a = .inl (cyI, S.R_I.len a, .inl (S.R_I.row a)) := by simp [wPF, h]
theorem wGt_R_I (cyI : ClassId) (cyJ : ClassId) (X : va_W) (S : wPS) {a : Nat} (hL : a ∈ S.L) (h : S.K a = 4) : ∃ k : Nat, (X ++ va_pl S.L (wPF cyI cyJ S))[k]? = some (a, wPF cyI cyJ S a) ∧ (X ++ va_pl S.L (wPF cyI cyJ S))[k]? = some (a, .inl (cyI, S.R_I.len a, .inl (S.R_I.row a))) := by
  obtain ⟨k, hk⟩ := va_pl_get (X := X) (f := wPF cyI cyJ S) hL
  exact ⟨k, hk, hk.trans (congrArg (fun e => some (a, e)) (wAt_R_I cyI cyJ S h))⟩
theorem wSt_R_I_row (cyI : ClassId) (cyJ : ClassId) (S : wPS) {a : Nat} (h : S.K a = 4) (v : Nat → Int32) (b : Nat) : va_up (wPF cyI cyJ S) a (.inl (cyI, S.R_I.len a, .inl v)) b = wPF cyI cyJ { S with R_I := { S.R_I with row := va_up S.R_I.row a v } } b := by by_cases hb : b = a <;> first | (simp only [wPF, va_up_ne _ _ hb]; done) | (simp only [wPF, va_up, if_neg hb]; done) | simp [wPF, va_re, va_up, va_rf, hb, h]
theorem wPu_R_I_row (cyI : ClassId) (cyJ : ClassId) (X : va_W) (S : wPS) {A : Nat → Prop} {a k : Nat} (hD : va_D A (X ++ va_pl S.L (wPF cyI cyJ S))) (hL : a ∈ S.L) (h : S.K a = 4) (hk : (X ++ va_pl S.L (wPF cyI cyJ S))[k]? = some (a, wPF cyI cyJ S a)) (v : Nat → Int32) : (X ++ va_pl S.L (wPF cyI cyJ S)).set k (a, .inl (cyI, S.R_I.len a, .inl v)) = X ++ va_pl S.L (wPF cyI cyJ { S with R_I := { S.R_I with row := va_up S.R_I.row a v } }) := by
  rw [va_pl_set hD hL hk]
  exact congrArg (fun l => X ++ l) (va_pl_congr (wSt_R_I_row cyI cyJ S h v))
theorem wNw_R_I (cyI : ClassId) (cyJ : ClassId) (S : wPS) (a : Nat) (z : Nat) (f : Nat → Int32) (b : Nat) : va_up (wPF cyI cyJ S) a (.inl (cyI, z, .inl f)) b = wPF cyI cyJ { S with L := S.L ++ [a], K := va_up S.K a 4, R_I := { len := va_up S.R_I.len a z, row := va_up S.R_I.row a f } } b := by by_cases hb : b = a <;> first | (simp only [wPF, va_up_ne _ _ hb]; done) | (simp only [wPF, va_up, if_neg hb]; done) | simp [wPF, va_re, va_up, va_rf, hb]
theorem wAt_R_J (cyI : ClassId) (cyJ : ClassId) (S : wPS) {a : Nat} (h : S.K a = 5) : wPF cyI cyJ S a = .inl (cyJ, S.R_J.len a, .inr (.inl (S.R_J.row a))) := by simp [wPF, h]
theorem wGt_R_J (cyI : ClassId) (cyJ : ClassId) (X : va_W) (S : wPS) {a : Nat} (hL : a ∈ S.L) (h : S.K a = 5) : ∃ k : Nat, (X ++ va_pl S.L (wPF cyI cyJ S))[k]? = some (a, wPF cyI cyJ S a) ∧ (X ++ va_pl S.L (wPF cyI cyJ S))[k]? = some (a, .inl (cyJ, S.R_J.len a, .inr (.inl (S.R_J.row a)))) := by
  obtain ⟨k, hk⟩ := va_pl_get (X := X) (f := wPF cyI cyJ S) hL
  exact ⟨k, hk, hk.trans (congrArg (fun e => some (a, e)) (wAt_R_J cyI cyJ S h))⟩
theorem wSt_R_J_row (cyI : ClassId) (cyJ : ClassId) (S : wPS) {a : Nat} (h : S.K a = 5) (v : Nat → Int64) (b : Nat) : va_up (wPF cyI cyJ S) a (.inl (cyJ, S.R_J.len a, .inr (.inl v))) b = wPF cyI cyJ { S with R_J := { S.R_J with row := va_up S.R_J.row a v } } b := by by_cases hb : b = a <;> first | (simp only [wPF, va_up_ne _ _ hb]; done) | (simp only [wPF, va_up, if_neg hb]; done) | simp [wPF, va_re, va_up, va_rf, hb, h]
theorem wPu_R_J_row (cyI : ClassId) (cyJ : ClassId) (X : va_W) (S : wPS) {A : Nat → Prop} {a k : Nat} (hD : va_D A (X ++ va_pl S.L (wPF cyI cyJ S))) (hL : a ∈ S.L) (h : S.K a = 5) (hk : (X ++ va_pl S.L (wPF cyI cyJ S))[k]? = some (a, wPF cyI cyJ S a)) (v : Nat → Int64) : (X ++ va_pl S.L (wPF cyI cyJ S)).set k (a, .inl (cyJ, S.R_J.len a, .inr (.inl v))) = X ++ va_pl S.L (wPF cyI cyJ { S with R_J := { S.R_J with row := va_up S.R_J.row a v } }) := by
  rw [va_pl_set hD hL hk]
  exact congrArg (fun l => X ++ l) (va_pl_congr (wSt_R_J_row cyI cyJ S h v))
theorem wNw_R_J (cyI : ClassId) (cyJ : ClassId) (S : wPS) (a : Nat) (z : Nat) (f : Nat → Int64) (b : Nat) : va_up (wPF cyI cyJ S) a (.inl (cyJ, z, .inr (.inl f))) b = wPF cyI cyJ { S with L := S.L ++ [a], K := va_up S.K a 5, R_J := { len := va_up S.R_J.len a z, row := va_up S.R_J.row a f } } b := by by_cases hb : b = a <;> first | (simp only [wPF, va_up_ne _ _ hb]; done) | (simp only [wPF, va_up, if_neg hb]; done) | simp [wPF, va_re, va_up, va_rf, hb]
/-! ===== END printed: names ===== -/
