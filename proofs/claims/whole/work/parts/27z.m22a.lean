/-! A throw of a class whose constructor names its superclass's by another place of its pool (NoSuchElementException: 13), on launches without stack traces. The library has this law for the place 7 (Stand.ctorThrowS) and, for other places, with stack traces alone (Stand.ctorThrowOnSVX); this one stands on the same laws of the library, and tells of the made cell its class alone -/
section NXC
variable {p : Program} {l : Launch} {e : Env} {R : Room} {s : State} {m : MethodId} {args : Array Value} {below : List Frame} {meth : Method} {c : Code} {T : State} {locs : List Loc} {cells slots : Nat}
set_option maxHeartbeats 2000000 in
theorem nx_ctor (X : Stand p l e R s m args below meth c T locs cells slots) (hexec : p.tables.exec = Jvm.exec) (htr : e.platform.stackTraces = false) {own cls : String} {names : List String} {ic ix : Nat} {rx : ByteArray}
    (x0 : decode rx 0 = .ok (.aload_n 0, 1)) (x1 : decode rx 1 = .ok (.aload_n 1, 1)) (x2 : decode rx 2 = .ok (.invokespecial ix, 3)) (x5 : decode rx 5 = .ok (.return_, 1))
    (hown : s.vm.findClass own = some m.cls) (hcls : Bundle.fit cls = true) (hnames : ∀ n ∈ names, Bundle.fit n = true) (h : ∀ w ∈ Bundle.ownAtomsX own ic cls ix rx names, w.before args s = true) (hlocs : locs = [])
    {q : Addr} {cX : ClassId} {kX : Class} (hfX : s.vm.findClass cls = some cX) (hkX : s.vm.classes[cX]? = some kX) (hcell : T.heap[q]? = some (freshCell cX kX)) (hnew : s.heap.size ≤ q) {msg : Value} (hmsg : msg.isRef = true)
    {g : JFrame} (hg : g.method = m) (hsize : g.locals.size = c.maxLocals) (hlocked : g.locked = none) (hent : g.entered = []) {rest : List Value} (hstack : g.stack = msg :: .ref q :: .ref q :: rest)
    (hd6 : decode c.code g.pc = .ok (.invokespecial ic, 3)) (hd9 : decode c.code (g.pc + 3) = .ok (.athrow, 1)) (hout : ∀ x ∈ c.exceptionTable.toList, covers x (g.pc + 3) = false)
    (hRf : names.length + 3 < R.frames) (hRl : 2 * g.monitorRoom + ((Value.ref q :: rest).map fun v => v.category).sum + (13 * (names.length + 1) + 42) ≤ R.locals) (hlocks : meth.locks = false) :
    ∃ U : State, Steps p.tables e below (T.setTop g) U ∧ U.status = .running ∧ Ended U below (.threw q) ∧ s.WarmedH U.vm ∧ s.sameButNew ({ U with vm := s.vm } : State) locs cells slots ∧ ∃ ce, U.heap[q]? = some ce ∧ ce.vm = .none ∧ s.vm.findClass cls = some ce.cls := by
  subst hlocs
  have pM : e.platform.frameOwnsMonitors = true := by rw [X.admits.platform]
  have pF : e.platform.finalization = false := by rw [X.admits.platform]
  have pA : e.platform.magicAccessors = ({} : Platform).magicAccessors := by rw [X.admits.platform]
  have wd : ∀ w, w ∈ Bundle.ownAtomsX own ic cls ix rx names → w.holds args s none s [] = true := fun w hw => h w hw
  obtain ⟨V, V0, LV, -, YV⟩ := ThrowableC.of_atoms (args := args) pM pF pA (fun w hw => h w (by simp [Bundle.ownAtomsX, hw]))
  obtain ⟨Z, M, LZ, LM, hZ⟩ := Init0T.ofS_atoms (args := args) pA LV YV (fun w hw => h w (by simp [Bundle.ownAtomsX, hw]))
  obtain ⟨P1, Ps, hlen, L1, hL, hP1, hl1, hl2⟩ := Bundle.chainSX (args := args) pA hZ x0 x1 x2 x5 names cls hcls hnames (fun w hw => h w (by simp [Bundle.ownAtomsX, hw]))
  have hf : s.vm.findClass cls = some P1.m.cls := findClass_of_methodNamed hP1
  cases Option.some.inj (hfX.symm.trans hf)
  obtain ⟨c1, k1, hc1, hk, hord, -, -, -⟩ := Cond.instantiable_spec (wd (.instantiable cls 6) (by simp [Bundle.ownAtomsX]))
  cases Option.some.inj (hc1.symm.trans hf)
  cases Option.some.inj (hkX.symm.trans hk)
  have sel : ∀ {y : MethodName} {k : MethodId}, Cond.selects cls y y ∈ Bundle.ownAtomsX own ic cls ix rx names → s.methodNamed? y = some k → (y.cls ≠ "java/lang/invoke/MethodHandle" ∧ y.cls ≠ "java/lang/invoke/VarHandle") → selectMethod e.platform s.vm P1.m.cls k = .method k := by
    intro y k hm hn hy
    obtain ⟨c2, r2, m2, q1, q2, q3, q4, -⟩ := Cond.selects_spec (wd _ hm)
    cases Option.some.inj (q1.symm.trans hf)
    cases Option.some.inj (q2.symm.trans (State.methodFound?_of_named hn hy))
    cases Option.some.inj (q3.symm.trans hn)
    rw [Launch.admits_selectMethod X.admits]; exact q4
  have s0 := sel (y := Bundle.tFill0) (by simp [Bundle.ownAtomsX]) YV.fill0 (by decide)
  have s1 := sel (y := Bundle.tFill) (by simp [Bundle.ownAtomsX]) YV.fill (by decide)
  obtain ⟨cS0, hcS0, hiss⟩ := YV.statics
  obtain ⟨u0, hu0⟩ := Cond.staticRefV YV.unassigned LV.unassignedStatic LV.statics hcS0 hiss (wd (.isRef (.static Bundle.tN "UNASSIGNED_STACK" Bundle.steD)) (by simp [Bundle.ownAtomsX]))
  obtain ⟨sn, hsn⟩ := Cond.staticRefV YV.sentinel LV.sentinelStatic LV.statics hcS0 hiss (wd (.isRef (.static Bundle.tN "SUPPRESSED_SENTINEL" Bundle.listD)) (by simp [Bundle.ownAtomsX]))
  obtain ⟨ci, i9, fB, b1, b2, b3, b4, -, nB, tB, fB9⟩ := Cond.ownField (t := .object "java/lang/Object") YV.found LV.cls (by decide +kernel) (wd (.fieldLink Bundle.tN 198 Bundle.tN "backtrace" "Ljava/lang/Object;") (by simp [Bundle.ownAtomsX])) (wd (.lays Bundle.tN Bundle.tN "backtrace" "Ljava/lang/Object;") (by simp [Bundle.ownAtomsX])) e.platform pA
  obtain ⟨cS, hcS, eS, -, keep⟩ := X.same.2.2.2.2.2 V.aS cS0 hcS0
  have hcellS : T.heap[V.aS]? = some cS := hcS
  have noL : ∀ i, (⟨V.aS, i⟩ : Loc) ∉ ([] : List Loc) := fun i hm => nomatch hm
  have hknS : cS.vm ≠ .unknown := by
    rw [eS]; intro hu
    rw [show cS0.vm = .unknown from hu] at hiss
    cases hiss
  have hne : V.aS ≠ q := Nat.ne_of_lt (Nat.lt_of_lt_of_le (Array.getElem?_eq_some_iff.mp hcS0).1 hnew)
  obtain ⟨iM, fM⟩ := YV.msg
  have lay : ∀ {n d : String} {cc : ClassId} {kk : Class} {ii : Nat} {ff : Field}, s.fieldFound? Bundle.tN n d = some (cc, kk, ii, ff) → Cond.lays cls Bundle.tN n d ∈ Bundle.ownAtomsX own ic cls ix rx names → _ := fun {n d cc kk ii ff} hff hm => Cond.laysAt hf hk hff (wd (.lays cls Bundle.tN n d) hm)
  obtain ⟨tC, dC, gC, nC⟩ := lay YV.cause (by simp [Bundle.ownAtomsX])
  obtain ⟨tS, dS, gS, nS⟩ := lay YV.stack (by simp [Bundle.ownAtomsX])
  obtain ⟨tP, dP, gP, nP⟩ := lay YV.supp (by simp [Bundle.ownAtomsX])
  obtain ⟨tM, dM, gM, nM⟩ := lay fM (by simp [Bundle.ownAtomsX])
  obtain ⟨tY, dB, gB, nY⟩ := lay fB9 (by simp [Bundle.ownAtomsX])
  have aC := Cond.laysApart gB gC nY nC (by rw [nB, YV.causeName]; decide)
  have aS := Cond.laysApart gB gS nY nS (by rw [nB, YV.stackName]; decide)
  have aP := Cond.laysApart gB gP nY nP (by rw [nB, YV.suppName]; decide)
  have skip : SkipFacts V e.platform s (fun u => u) u0 ((preparedCellV V.toThrowableT (freshCell P1.m.cls kX) q u0 sn).withEntry T.cur) :=
    ⟨{ ci198 := ci, i198 := i9, fBack := fB }, ⟨b1, b2, b3, b4⟩, by
      have h9 := fresh_default (c := P1.m.cls) tY
      rw [tB] at h9
      simpa [preparedCellV, Cell.setSlot, Cell.withEntry, Array.getElem?_setIfInBounds, aC, aS, aP, aC.symm, aS.symm, aP.symm, defaultValue] using h9, fun _ _ => rfl⟩
  obtain ⟨tm, mC, cdC, kC, vm1, hnC, -, -, -, -, -, -, -, hW1, st1⟩ := Steps.initColdS (tb := p.tables) (e := e) (below := below) (s := s) (U := T) X.here hexec X.warmed pA hown (t := Bundle.initS cls) rfl rfl (Bundle.fit_spec hcls).2
    (wd (.methodLink own ic (Bundle.initS cls)) (by simp [Bundle.ownAtomsX])) (h (.instanceMethod (Bundle.initS cls)) (by cases names <;> simp [Bundle.ownAtomsX, Bundle.chainSAtomsX, Bundle.passSAtoms])) (bytes := rx) (maxL := 2) (h (.code (Bundle.initS cls) rx 2 none) (by cases names <;> simp [Bundle.ownAtomsX, Bundle.chainSAtomsX, Bundle.passSAtoms]))
    (f := g) hg (a := q) (msg := msg) (rest := .ref q :: rest) hstack hd6
  cases Option.some.inj (hnC.symm.trans hP1)
  have X1 := X.noted hW1
  obtain ⟨vm2, X2, st2⟩ := X1.ctorMessageOffV hexec (g := { g with stack := .ref q :: rest }) hg hsize V LV Z LZ M LM (P1 :: Ps)
    (fun P hP => (List.mem_cons.mp hP).elim (fun e9 => by rw [e9]; exact L1) (hL P)) ⟨hl1, hl2⟩ (u0 := u0) (sen := sn) (self := q) hmsg (cell := freshCell P1.m.cls kX) (cellS := cS)
    hcell (fun _ => by simp) (by simp) rfl rfl s0 s1 hcellS hne hknS (by rw [keep _ (noL _)]; exact hu0) (by rw [keep _ (noL _)]; exact hsn)
    (Takes.of_laid hk hord tC (by rw [YV.causeType]; rfl)) (Takes.of_laid hk hord tS (by rw [YV.stackType]; exact fits_refV_array _ u0)) (Takes.of_laid hk hord tP (by rw [YV.suppType]; exact fits_refV_object _ sn))
    (Takes.of_laid hk hord tM (by rw [YV.msgType]; exact fits_refV_object _ ⟨msg, hmsg⟩)) YV.objLocals skip htr [] hd6
    (by simp only [List.length_cons, hlen]; omega) (by simp only [List.length_cons, hlen]; exact hRl)
  obtain ⟨hwalk, hrun, hended, hWU, hsame⟩ := X2.athrowLeaves hexec (g := { g with stack := .ref q :: rest, pc := g.pc + 3 }) hg hlocked hent hout (a := q) (rest := rest) rfl hd9
  have hlt : q < ((T.setVm vm1).setVm vm2).heap.size := (Array.getElem?_eq_some_iff.mp hcell).1
  refine ⟨_, st1 _ (fun acts => by rw [doInvoke_state]; exact st2 _ hwalk), hrun, hended, hWU, hsame.weaken (fun y hy hy2 => ?_) (Nat.le_refl _) (Nat.le_refl _), _, heapAt_setCell_self (s := (T.setVm vm1).setVm vm2) (plainBareV V.toThrowableT (freshCell P1.m.cls kX) q u0 sn msg) hlt, rfl, hf⟩
  exfalso
  have hb : y.base = q := by
    rcases List.mem_append.mp hy with h1 | h1
    · cases h1
    · simp only [List.mem_cons, List.not_mem_nil, or_false] at h1
      rcases h1 with rfl | rfl | rfl | rfl | rfl <;> rfl
  rw [hb] at hy2
  exact Nat.not_lt.mpr hnew hy2
end NXC
def nx_at (own : String) (ic : Nat) (X : String) (ix : Nat) (rx : ByteArray) (names : List String) : List Cond := (Bundle.ownAtomsX own ic X ix rx names).filter vx_no
section NXT
variable {p : Program} {l : Launch} {e : Env} {R : Room} {s : State} {m : MethodId} {args : Array Value} {below : List Frame} {meth : Method} {c : Code} {H : Heap} {locs : List Loc} {cells slots : Nat}
variable {mc ms : Nat} {free : Addr → Prop} {ls : Array Slot} {rest : List Value} {Qc : Array Value → State → Outcome → State → Prop} {XC : String → State → State → Prop}
/-- 'throw new E("text")', E's constructor of another place: vx_throwS with nx_ctor -/
theorem nx_throw {cc : ByteArray} {pc : Nat} (hexec : p.tables.exec = Jvm.exec) (hb : c.code = cc) (hl : l.stackTraces = false) {own cls text : String} {names : List String} {ik is ic ix sa : Nat} {rx : ByteArray} {A : Nat → Prop}
    (x0 : decode rx 0 = .ok (.aload_n 0, 1)) (x1 : decode rx 1 = .ok (.aload_n 1, 1)) (x2 : decode rx 2 = .ok (.invokespecial ix, 3)) (x5 : decode rx 5 = .ok (.return_, 1))
    (hown : s.vm.findClass own = some m.cls) (hcls : Bundle.fit cls = true) (hnames : ∀ n ∈ names, Bundle.fit n = true)
    (hk : (Cond.classLink own ik cls).before args s = true) (hini : (Cond.initialized cls).before args s = true) (hstr : vk_R own is text sa s) (hat : ∀ w ∈ nx_at own ic cls ix rx names, w.before args s = true)
    (hgood : ∀ w ∈ Cond.classLink own ik cls :: Cond.initialized cls :: nx_at own ic cls ix rx names, vx_ot w = true)
    (hU : vx_Zq Bundle.tN "UNASSIGNED_STACK" Bundle.steD A s s.heap) (hN : vx_Zq Bundle.tN "SUPPRESSED_SENTINEL" Bundle.listD A s s.heap) (hS : va_S A s.heap H locs) (hsize : ls.size = c.maxLocals)
    (d0 : decode cc pc = .ok (.new ik, 3)) (d3 : decode cc (pc + 3) = .ok (.dup, 1)) (d4 : decode cc (pc + 4) = .ok (.ldc is, 2)) (d6 : decode cc (pc + 6) = .ok (.invokespecial ic, 3)) (d9 : decode cc (pc + 9) = .ok (.athrow, 1))
    (hout : ∀ x ∈ c.exceptionTable.toList, covers x (pc + 9) = false)
    (hRf : names.length + 3 < R.frames) (hRl : (rest.map fun v => v.category).sum + (13 * (names.length + 1) + 43) ≤ R.locals) (hRc : cells + 1 ≤ R.cells) (hRs : slots + 6 ≤ R.slots) (hlocks : meth.locks = false)
    (hx : ∀ t : State, s.vm.Alike t.vm → H.size ≤ t.heap.size → (∀ q : Nat, q < H.size → t.heap[q]? = H[q]?) → XC cls s t)
    (hf : ∀ z ∈ locs, free z.base) (hc : cells + 1 ≤ mc) (hs : slots + 6 ≤ ms) :
    W p l e R s m args below meth c H locs cells slots (vx_MQ below Qc XC args s mc ms free) (F0 m pc ls rest) := by
  intro T hT X
  have htr : e.platform.stackTraces = false := (show e.platform.stackTraces = l.stackTraces by rw [X.admits.platform]).trans hl
  have Y := vx_rebase X (R' := { frames := R.frames, locals := R.locals, cells := 1, slots := 6 }) (Nat.le_refl _) (Nat.le_refl _) hRc hRs
  generalize hB : (T.setVm s.vm).setFrames (.invoking m args :: below) = B at Y
  have vB : B.vm = s.vm := by rw [← hB]; rfl
  have hpB : B.heap = H := by rw [← hB]; exact hT
  have wB : s.WarmedH B.vm := by rw [vB]; exact State.WarmedH.refl s
  have up : ∀ w, vx_ot w = true → w.before args s = true → w.before args B = true := fun w hw h9 => vx_ot_at wB vB.symm hw h9
  have zU : vx_Zq Bundle.tN "UNASSIGNED_STACK" Bundle.steD A B B.heap := by rw [hpB]; exact vx_Zq.moved wB.alike (hU.kept hS.2.1)
  have zN : vx_Zq Bundle.tN "SUPPRESSED_SENTINEL" Bundle.listD A B B.heap := by rw [hpB]; exact vx_Zq.moved wB.alike (hN.kept hS.2.1)
  have hall : ∀ w ∈ Bundle.ownAtomsX own ic cls ix rx names, w.before args B = true := vx_own (fun w hw => up w (hgood w (List.mem_cons_of_mem _ (List.mem_cons_of_mem _ hw))) (hat w hw)) (vx_isRefq zU.1) (vx_isRefq zN.1) zU.2.word zN.2.word
  have ownB : B.vm.findClass own = some m.cls := by rw [vB]; exact hown
  obtain ⟨vm1, cX, kX, hfX, hkX, -, -, X1, go1⟩ := Y.newCold hexec (own := own) (C := cls) (index := ik) (n := 6) ownB (up _ (hgood _ List.mem_cons_self) hk) (hall _ (by simp [Bundle.ownAtomsX])) (up _ (hgood _ (List.mem_cons_of_mem _ List.mem_cons_self)) hini)
    (g := F0 m pc ls rest) rfl (by rw [hb]; exact d0) (Nat.le_refl _) (Nat.le_refl _)
  generalize hT1 : (T.setVm vm1).pushCell { cls := cX, slots := kX.instanceTypes.map defaultValue, vm := .none } = T1 at X1 go1
  have hcat : (Value.ref T.heap.size).category = 1 := rfl
  have hat1 : T1.heap[T.heap.size]? = some (freshCell cX kX) := by rw [← hT1]; exact State.heap_pushCell_size _ _
  have d3' : decode c.code (pc + 3) = .ok (.dup, 1) := by rw [hb]; exact d3
  have d4' : decode c.code (pc + 4) = .ok (.ldc is, 2) := by rw [hb]; exact d4
  have strB : vk_R own is text sa B := vk_R.warm wB hstr
  obtain ⟨U, hsteps, hrun, hend, hW, hsame, ce, hce, hcv, hcl⟩ := nx_ctor X1 hexec htr (own := own) (cls := cls) (names := names) (ic := ic) x0 x1 x2 x5 ownB hcls hnames hall rfl hfX hkX hat1 (by rw [hpB, hT]; exact Nat.le_refl _) (msg := .ref sa) rfl
    (g := { method := m, pc := pc + 6, locals := ls, stack := .ref sa :: .ref T.heap.size :: .ref T.heap.size :: rest, locked := none }) rfl hsize rfl rfl (rest := rest) rfl
    (by rw [hb]; exact d6) (by rw [hb]; exact d9) hout hRf (by simp only [List.map_cons, List.sum_cons, hcat]; omega) hlocks
  obtain ⟨f1, f2⟩ := vx_frame hsame
  rw [hpB] at f1 f2
  have wU : s.WarmedH U.vm := State.WarmedH.trans wB hW
  have hcl9 : s.vm.findClass cls = some ce.cls := by rw [vB] at hcl; exact hcl
  have hsb : s.sameButNew ({ U with vm := s.vm } : State) locs mc ms := by
    subst hB
    obtain ⟨e1, e2⟩ := hsame
    rw [State.setFrames_setFrames] at e1
    have h2 : (T.setVm s.vm).sameButNew ({ U with vm := s.vm } : State) [] (0 + 1) (0 + 6) := ⟨e1, e2⟩
    have h3 := X.same.trans h2
    rw [List.append_nil] at h3
    exact h3.mono hc hs
  refine ⟨U, go1 _ ?_, .threw T.heap.size, hrun, hend, Or.inr ⟨T.heap.size, rfl, cls, ce, locs, hx U wU.alike f1 (fun q hq => f2 q hq (fun z hz => nomatch hz)), hce, hcv, hcl9, wU, hsb, hf⟩⟩
  show Steps p.tables e below (T1.setTop { method := m, pc := pc + 3, locals := ls, stack := .ref T.heap.size :: rest, locked := none }) _
  jvm_step X1.here [X1.here.top, hexec, d3', Value.category]
  exact X1.ldcString hexec (own := own) (text := text) (index := is) (a := sa) ownB strB.1 strB.2
    (g := { method := m, pc := pc + 4, locals := ls, stack := .ref T.heap.size :: .ref T.heap.size :: rest, locked := none }) rfl d4' _ hsteps
end NXT
