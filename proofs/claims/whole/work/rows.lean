section
-- ===== PART A: goes FIRST, ahead of the names: the tables' words, and 'selects' of the private methods out of them =====
/-- a private method of a class that the tables say can be made, by its rows of tables_1 -/
def lw_okq (q : MethodName × Nat) : Prop := (q.1.cls ≠ "java/lang/invoke/MethodHandle" ∧ q.1.cls ≠ "java/lang/invoke/VarHandle") ∧ Cond.instantiable q.1.cls q.2 ∈ tables_1 ∧ Cond.privateMethod q.1 ∈ tables_1 ∧ Cond.instanceMethod q.1 ∈ tables_1
theorem lw_p0 : lw_okq (⟨"ListMemory", "makeCollection", "()V"⟩, 7) := ⟨⟨by decide +kernel, by decide +kernel⟩, List.mem_of_getElem? (i := 16) (by decide +kernel), List.mem_of_getElem? (i := 111) (by decide +kernel), List.mem_of_getElem? (i := 112) (by decide +kernel)⟩
theorem lw_p1 : lw_okq (⟨"ListMemory$Collector", "listPair", "(LListMemory$Half;J)V"⟩, 5) := ⟨⟨by decide +kernel, by decide +kernel⟩, List.mem_of_getElem? (i := 24) (by decide +kernel), List.mem_of_getElem? (i := 126) (by decide +kernel), List.mem_of_getElem? (i := 127) (by decide +kernel)⟩
theorem lw_p2 : lw_okq (⟨"ListMemory$Collector", "layCell", "(LListMemory$Half;LListMemory$Half;I)I"⟩, 5) := ⟨⟨by decide +kernel, by decide +kernel⟩, List.mem_of_getElem? (i := 24) (by decide +kernel), List.mem_of_getElem? (i := 163) (by decide +kernel), List.mem_of_getElem? (i := 164) (by decide +kernel)⟩
theorem lw_p3 : lw_okq (⟨"ListMemory$Collector", "inNewHalf", "(LListMemory$Half;J)J"⟩, 5) := ⟨⟨by decide +kernel, by decide +kernel⟩, List.mem_of_getElem? (i := 24) (by decide +kernel), List.mem_of_getElem? (i := 180) (by decide +kernel), List.mem_of_getElem? (i := 181) (by decide +kernel)⟩
theorem lw_p4 : lw_okq (⟨"java/lang/Throwable", "fillInStackTrace", "(I)Ljava/lang/Throwable;"⟩, 6) := ⟨⟨by decide +kernel, by decide +kernel⟩, List.mem_of_getElem? (i := 249) (by decide +kernel), List.mem_of_getElem? (i := 247) (by decide +kernel), List.mem_of_getElem? (i := 248) (by decide +kernel)⟩
theorem lw_p5 : lw_okq (⟨"ListMemory", "makeRoom", "(I)V"⟩, 7) := ⟨⟨by decide +kernel, by decide +kernel⟩, List.mem_of_getElem? (i := 16) (by decide +kernel), List.mem_of_getElem? (i := 323) (by decide +kernel), List.mem_of_getElem? (i := 324) (by decide +kernel)⟩
theorem lw_p6 : lw_okq (⟨"ListMemory", "checkHoldsPair", "(I)V"⟩, 7) := ⟨⟨by decide +kernel, by decide +kernel⟩, List.mem_of_getElem? (i := 16) (by decide +kernel), List.mem_of_getElem? (i := 365) (by decide +kernel), List.mem_of_getElem? (i := 366) (by decide +kernel)⟩
theorem lw_p7 : lw_okq (⟨"ListMemory", "isSame", "(JJ)Z"⟩, 7) := ⟨⟨by decide +kernel, by decide +kernel⟩, List.mem_of_getElem? (i := 16) (by decide +kernel), List.mem_of_getElem? (i := 411) (by decide +kernel), List.mem_of_getElem? (i := 412) (by decide +kernel)⟩
theorem lw_p8 : lw_okq (⟨"ListMemory", "countPairs", "(J)I"⟩, 7) := ⟨⟨by decide +kernel, by decide +kernel⟩, List.mem_of_getElem? (i := 16) (by decide +kernel), List.mem_of_getElem? (i := 423) (by decide +kernel), List.mem_of_getElem? (i := 424) (by decide +kernel)⟩
theorem lw_p9 : lw_okq (⟨"ListMemory", "takeFirsts", "(JIJ)V"⟩, 7) := ⟨⟨by decide +kernel, by decide +kernel⟩, List.mem_of_getElem? (i := 16) (by decide +kernel), List.mem_of_getElem? (i := 428) (by decide +kernel), List.mem_of_getElem? (i := 429) (by decide +kernel)⟩
theorem lw_p10 : lw_okq (⟨"ListMemory", "countWords", "(J)I"⟩, 7) := ⟨⟨by decide +kernel, by decide +kernel⟩, List.mem_of_getElem? (i := 16) (by decide +kernel), List.mem_of_getElem? (i := 471) (by decide +kernel), List.mem_of_getElem? (i := 472) (by decide +kernel)⟩
theorem lw_p11 : lw_okq (⟨"ListMemory$Matching", "fit", "(LListMemory$Half;JJ)Z"⟩, 4) := ⟨⟨by decide +kernel, by decide +kernel⟩, List.mem_of_getElem? (i := 48) (by decide +kernel), List.mem_of_getElem? (i := 489) (by decide +kernel), List.mem_of_getElem? (i := 490) (by decide +kernel)⟩
theorem lw_p12 : lw_okq (⟨"ListMemoryModel", "refuse", "(ZZ)Z"⟩, 21) := ⟨⟨by decide +kernel, by decide +kernel⟩, List.mem_of_getElem? (i := 526) (by decide +kernel), List.mem_of_getElem? (i := 610) (by decide +kernel), List.mem_of_getElem? (i := 611) (by decide +kernel)⟩
theorem lw_p13 : lw_okq (⟨"ListMemoryModel", "setRoot", "(IIJ)V"⟩, 21) := ⟨⟨by decide +kernel, by decide +kernel⟩, List.mem_of_getElem? (i := 526) (by decide +kernel), List.mem_of_getElem? (i := 614) (by decide +kernel), List.mem_of_getElem? (i := 615) (by decide +kernel)⟩
theorem lw_p14 : lw_okq (⟨"ListMemoryModel", "room", "(I)Z"⟩, 21) := ⟨⟨by decide +kernel, by decide +kernel⟩, List.mem_of_getElem? (i := 526) (by decide +kernel), List.mem_of_getElem? (i := 630) (by decide +kernel), List.mem_of_getElem? (i := 631) (by decide +kernel)⟩
theorem lw_p15 : lw_okq (⟨"ListMemoryModel", "gather", "()V"⟩, 21) := ⟨⟨by decide +kernel, by decide +kernel⟩, List.mem_of_getElem? (i := 526) (by decide +kernel), List.mem_of_getElem? (i := 634) (by decide +kernel), List.mem_of_getElem? (i := 635) (by decide +kernel)⟩
def lw_privs_1 : List (MethodName × Nat) := [(⟨"ListMemory", "makeCollection", "()V"⟩, 7), (⟨"ListMemory$Collector", "listPair", "(LListMemory$Half;J)V"⟩, 5), (⟨"ListMemory$Collector", "layCell", "(LListMemory$Half;LListMemory$Half;I)I"⟩, 5), (⟨"ListMemory$Collector", "inNewHalf", "(LListMemory$Half;J)J"⟩, 5), (⟨"java/lang/Throwable", "fillInStackTrace", "(I)Ljava/lang/Throwable;"⟩, 6), (⟨"ListMemory", "makeRoom", "(I)V"⟩, 7), (⟨"ListMemory", "checkHoldsPair", "(I)V"⟩, 7), (⟨"ListMemory", "isSame", "(JJ)Z"⟩, 7), (⟨"ListMemory", "countPairs", "(J)I"⟩, 7), (⟨"ListMemory", "takeFirsts", "(JIJ)V"⟩, 7), (⟨"ListMemory", "countWords", "(J)I"⟩, 7), (⟨"ListMemory$Matching", "fit", "(LListMemory$Half;JJ)Z"⟩, 4), (⟨"ListMemoryModel", "refuse", "(ZZ)Z"⟩, 21), (⟨"ListMemoryModel", "setRoot", "(IIJ)V"⟩, 21), (⟨"ListMemoryModel", "room", "(I)Z"⟩, 21), (⟨"ListMemoryModel", "gather", "()V"⟩, 21)]
theorem lw_r1 : ∀ q ∈ lw_privs_1, lw_okq q := List.forall_mem_cons.mpr ⟨lw_p0, List.forall_mem_cons.mpr ⟨lw_p1, List.forall_mem_cons.mpr ⟨lw_p2, List.forall_mem_cons.mpr ⟨lw_p3, List.forall_mem_cons.mpr ⟨lw_p4, List.forall_mem_cons.mpr ⟨lw_p5, List.forall_mem_cons.mpr ⟨lw_p6, List.forall_mem_cons.mpr ⟨lw_p7, List.forall_mem_cons.mpr ⟨lw_p8, List.forall_mem_cons.mpr ⟨lw_p9, List.forall_mem_cons.mpr ⟨lw_p10, List.forall_mem_cons.mpr ⟨lw_p11, List.forall_mem_cons.mpr ⟨lw_p12, List.forall_mem_cons.mpr ⟨lw_p13, List.forall_mem_cons.mpr ⟨lw_p14, List.forall_mem_cons.mpr ⟨lw_p15, fun _ h => absurd h List.not_mem_nil⟩⟩⟩⟩⟩⟩⟩⟩⟩⟩⟩⟩⟩⟩⟩⟩
theorem lw_p16 : lw_okq (⟨"ListMemoryModel", "enlist", "(IJ)V"⟩, 21) := ⟨⟨by decide +kernel, by decide +kernel⟩, List.mem_of_getElem? (i := 526) (by decide +kernel), List.mem_of_getElem? (i := 638) (by decide +kernel), List.mem_of_getElem? (i := 639) (by decide +kernel)⟩
theorem lw_p17 : lw_okq (⟨"ListMemoryModel", "cell", "(J)I"⟩, 21) := ⟨⟨by decide +kernel, by decide +kernel⟩, List.mem_of_getElem? (i := 526) (by decide +kernel), List.mem_of_getElem? (i := 642) (by decide +kernel), List.mem_of_getElem? (i := 643) (by decide +kernel)⟩
theorem lw_p18 : lw_okq (⟨"ListMemoryModel", "lookRest", "(I)V"⟩, 21) := ⟨⟨by decide +kernel, by decide +kernel⟩, List.mem_of_getElem? (i := 526) (by decide +kernel), List.mem_of_getElem? (i := 646) (by decide +kernel), List.mem_of_getElem? (i := 647) (by decide +kernel)⟩
theorem lw_p19 : lw_okq (⟨"ListMemoryModel", "look", "(IJ)V"⟩, 21) := ⟨⟨by decide +kernel, by decide +kernel⟩, List.mem_of_getElem? (i := 526) (by decide +kernel), List.mem_of_getElem? (i := 650) (by decide +kernel), List.mem_of_getElem? (i := 651) (by decide +kernel)⟩
theorem lw_p20 : lw_okq (⟨"ListMemoryModel", "spine", "(I)V"⟩, 21) := ⟨⟨by decide +kernel, by decide +kernel⟩, List.mem_of_getElem? (i := 526) (by decide +kernel), List.mem_of_getElem? (i := 654) (by decide +kernel), List.mem_of_getElem? (i := 655) (by decide +kernel)⟩
theorem lw_p21 : lw_okq (⟨"ListMemoryModel", "lay", "(IIJ)V"⟩, 21) := ⟨⟨by decide +kernel, by decide +kernel⟩, List.mem_of_getElem? (i := 526) (by decide +kernel), List.mem_of_getElem? (i := 658) (by decide +kernel), List.mem_of_getElem? (i := 659) (by decide +kernel)⟩
theorem lw_p22 : lw_okq (⟨"ListMemoryModel", "put", "(IIJ)I"⟩, 21) := ⟨⟨by decide +kernel, by decide +kernel⟩, List.mem_of_getElem? (i := 526) (by decide +kernel), List.mem_of_getElem? (i := 662) (by decide +kernel), List.mem_of_getElem? (i := 663) (by decide +kernel)⟩
theorem lw_p23 : lw_okq (⟨"ListMemoryModel", "cellOf", "(I)I"⟩, 21) := ⟨⟨by decide +kernel, by decide +kernel⟩, List.mem_of_getElem? (i := 526) (by decide +kernel), List.mem_of_getElem? (i := 674) (by decide +kernel), List.mem_of_getElem? (i := 675) (by decide +kernel)⟩
theorem lw_p24 : lw_okq (⟨"ListMemoryModel", "isSame", "(IJIJ)Z"⟩, 21) := ⟨⟨by decide +kernel, by decide +kernel⟩, List.mem_of_getElem? (i := 526) (by decide +kernel), List.mem_of_getElem? (i := 690) (by decide +kernel), List.mem_of_getElem? (i := 691) (by decide +kernel)⟩
theorem lw_p25 : lw_okq (⟨"ListMemoryModel", "lengthOf", "(IJ)I"⟩, 21) := ⟨⟨by decide +kernel, by decide +kernel⟩, List.mem_of_getElem? (i := 526) (by decide +kernel), List.mem_of_getElem? (i := 698) (by decide +kernel), List.mem_of_getElem? (i := 699) (by decide +kernel)⟩
theorem lw_p26 : lw_okq (⟨"ListMemoryModel", "meet", "(IJIJ)Z"⟩, 21) := ⟨⟨by decide +kernel, by decide +kernel⟩, List.mem_of_getElem? (i := 526) (by decide +kernel), List.mem_of_getElem? (i := 726) (by decide +kernel), List.mem_of_getElem? (i := 727) (by decide +kernel)⟩
def lw_privs_2 : List (MethodName × Nat) := [(⟨"ListMemoryModel", "enlist", "(IJ)V"⟩, 21), (⟨"ListMemoryModel", "cell", "(J)I"⟩, 21), (⟨"ListMemoryModel", "lookRest", "(I)V"⟩, 21), (⟨"ListMemoryModel", "look", "(IJ)V"⟩, 21), (⟨"ListMemoryModel", "spine", "(I)V"⟩, 21), (⟨"ListMemoryModel", "lay", "(IIJ)V"⟩, 21), (⟨"ListMemoryModel", "put", "(IIJ)I"⟩, 21), (⟨"ListMemoryModel", "cellOf", "(I)I"⟩, 21), (⟨"ListMemoryModel", "isSame", "(IJIJ)Z"⟩, 21), (⟨"ListMemoryModel", "lengthOf", "(IJ)I"⟩, 21), (⟨"ListMemoryModel", "meet", "(IJIJ)Z"⟩, 21)]
theorem lw_r2 : ∀ q ∈ lw_privs_2, lw_okq q := List.forall_mem_cons.mpr ⟨lw_p16, List.forall_mem_cons.mpr ⟨lw_p17, List.forall_mem_cons.mpr ⟨lw_p18, List.forall_mem_cons.mpr ⟨lw_p19, List.forall_mem_cons.mpr ⟨lw_p20, List.forall_mem_cons.mpr ⟨lw_p21, List.forall_mem_cons.mpr ⟨lw_p22, List.forall_mem_cons.mpr ⟨lw_p23, List.forall_mem_cons.mpr ⟨lw_p24, List.forall_mem_cons.mpr ⟨lw_p25, List.forall_mem_cons.mpr ⟨lw_p26, fun _ h => absurd h List.not_mem_nil⟩⟩⟩⟩⟩⟩⟩⟩⟩⟩⟩
def lw_privs : List (MethodName × Nat) := lw_privs_1 ++ (lw_privs_2)
def lw_tbl : List Cond := k2_sels lw_privs ++ tables_1
theorem lw_privs_ok : ∀ q ∈ lw_privs, lw_okq q := by
  show ∀ q ∈ lw_privs_1 ++ (lw_privs_2), lw_okq q
  exact List.forall_mem_append.mpr ⟨lw_r1, lw_r2⟩
end
section
/-! ===== BEGIN words of one list among another's, by their places ===== -/
theorem goodIn_r {big : List Cond} (ws : List Cond) (ps : List Nat) (hp : ws = ps.filterMap (fun i => big[i]?)) (h : ws.all goodWord = true) : GoodIn big ws := by
  intro w hw
  have h1 := List.all_eq_true.mp h w hw
  rw [hp] at hw
  obtain ⟨i, -, hi⟩ := List.mem_filterMap.mp hw
  have hm : w ∈ big := by first | exact List.mem_of_getElem? hi | exact List.getElem?_mem hi
  exact ⟨hm, good_of_word h1⟩
theorem goodIn_app {big a b : List Cond} (ha : GoodIn big a) (hb : GoodIn big b) : GoodIn big (a ++ b) := fun w h => (List.mem_append.mp h).elim (ha w) (hb w)
theorem goodIn_ca {big a b : List Cond} {c : Cond} (ha : GoodIn big (c :: a)) (hb : GoodIn big b) : GoodIn big (c :: (a ++ b)) := fun w h => (List.mem_cons.mp h).elim (fun e => ha w (List.mem_cons.mpr (Or.inl e))) (fun h => (List.mem_append.mp h).elim (fun h => ha w (List.mem_cons.mpr (Or.inr h))) (hb w))
theorem goodIn_sub {big ws : List Cond} (hm : ∀ w ∈ ws, w ∈ big) (h : ws.all goodWord = true) : GoodIn big ws := fun w hw => ⟨hm w hw, good_of_word (List.all_eq_true.mp h w hw)⟩
/-! ===== END ===== -/

/-! ===== BEGIN exceptions that leave a method, and their catching by the caller (launches without stack traces) ===== -/
section VXA
/-! The laws vx_back, vx_callV, vx_callS, vx_callSW, vx_throw0, vx_throwS follow proofs of the library, with one case more: JvmDerived/Free/Laws.lean (Back.of_free), Shelf42/LK1.lean (callV, callS), Shelf/KitTraced.lean (throwNew0V, throwNewS). -/
/-- where a method has thrown q: the class by its name, the cell, what was written, the world -/
def vx_T (XC : String → State → State → Prop) (st : State) (q : Addr) (t : State) (mc ms : Nat) (free : Addr → Prop) : Prop :=
  ∃ (E : String) (ce : Cell) (L : List Loc), XC E st t ∧ t.heap[q]? = some ce ∧ ce.vm = .none ∧ st.vm.findClass E = some ce.cls ∧ st.WarmedH t.vm ∧ st.sameButNew ({ t with vm := st.vm } : State) L mc ms ∧ ∀ z ∈ L, free z.base
def vx_Q (Qc : Array Value → State → Outcome → State → Prop) (XC : String → State → State → Prop) (mc ms : Nat) (free : Addr → Prop) : Array Value → State → Outcome → State → Prop := fun a st o t =>
  (Qc a st o t ∧ ∃ L, FrameEnd st o t L mc ms ∧ ∀ q ∈ L, free q.base) ∨ ∃ q, o = .threw q ∧ vx_T XC st q t mc ms free
/-- a callee that returns or throws -/
def vx_Met (l : Launch) (y : MethodName) (ws : List Cond) (rm : Room) (Pc : Array Value → State → Prop) (Qc : Array Value → State → Outcome → State → Prop) (XC : String → State → State → Prop) (mc ms : Nat) (free : Addr → Prop) : Prop :=
  MetFree l y (headSpec ws rm) Pc (fun _ _ _ _ _ => True) (vx_Q Qc XC mc ms free)
def vx_Post (XC : String → State → State → Prop) (mc ms : Nat) (free : Addr → Prop) : Pt → Array Value → Addr → Pt → Prop := fun A a q B =>
  ∃ (g : JFrame) (mk : MethodId) (t : State) (L : List Loc) (E : String) (ce : Cell), B.U.heap = t.heap ∧ B.U.vm = t.vm ∧ XC E (A.U.calling g mk a) t ∧ t.heap[q]? = some ce ∧ ce.vm = .none ∧ A.U.vm.findClass E = some ce.cls ∧ B.locs = A.locs ++ L ∧ (∀ z ∈ L, free z.base) ∧ B.cells = A.cells + mc ∧ B.slots = A.slots + ms
def vx_Back (l : Launch) (R : Room) (p : Program) (e : Env) (below : List Frame) (s : State) (sargs : Array Value) (y : MethodName) (len W9 : Nat)
    (Pre : Pt → Array Value → Prop) (Post : Pt → Array Value → Option Value → Pt → Prop) (PostX : Pt → Array Value → Addr → Pt → Prop) : Prop :=
  ∀ (m : MethodId) (meth : Method) (c : Code) (A : Pt) (g : JFrame) (ig : Instr) (mk : MethodId) (a : Array Value),
    Stand p l e R s m sargs below meth c A.U A.locs A.cells A.slots → g.method = m → g.locals.size = c.maxLocals → decode c.code g.pc = .ok (ig, len) →
    2 * g.monitorRoom + (g.stack.map fun v => v.category).sum ≤ W9 → A.U.methodNamed? y = some mk → Pre A a →
    (∃ (v : Option Value) (B : Pt), Stand p l e R s m sargs below meth c B.U B.locs B.cells B.slots ∧ Post A a v B ∧
      Steps p.tables e below (doInvoke e (A.U.setTop g) [] mk a).1 (B.U.setTop { g with pc := g.pc + len, stack := v.toList ++ g.stack })) ∨
    (∃ (q : Addr) (B : Pt), Stand p l e R s m sargs below meth c B.U B.locs B.cells B.slots ∧ PostX A a q B ∧
      Steps p.tables e below (doInvoke e (A.U.setTop g) [] mk a).1 ((B.U.setTop g).pushFrame (.throwing q)))
section Payer
variable {l : Launch} {R : Room} {p : Program} {e : Env} {below : List Frame} {s : State} {sargs : Array Value} {y : MethodName} {len W9 : Nat}
theorem vx_back {ws : List Cond} {rm : Room} {Pc : Array Value → State → Prop} {Qc : Array Value → State → Outcome → State → Prop} {XC : String → State → State → Prop} {mc ms : Nat} {free : Addr → Prop} {bytes : ByteArray} {maxL : Nat} {ret : Option FieldType}
    (hM : vx_Met l y ws rm Pc Qc XC mc ms free) (hblind : FrameBlind Pc) (hrc : rm.cells = mc) (hrs : rm.slots = ms)
    (hframes : rm.frames + 1 ≤ R.frames) (hlocals : W9 + (maxL + 11) + rm.locals ≤ R.locals)
    (hws : ∀ w ∈ ws, ∀ a' U, s.WarmedH U.vm → w.before a' U = true) (hcode : Cond.code y bytes maxL ret ∈ ws) (hinit : ∀ a' U, s.WarmedH U.vm → (Cond.initialized y.cls).before a' U = true) :
    vx_Back l R p e below s sargs y len W9 (PreOf R mc ms Pc) (PostOf Qc mc ms free) (vx_Post XC mc ms free) := by
  intro m meth c A g ig mk a X hg hsize hdg hW hn hp
  have h1 : (headSpec ws rm).pre.before a A.U = true := atoms_intro fun w hw => hws w hw _ _ X.warmed
  have h2 : (Cond.code y bytes maxL ret).before a A.U = true := hws _ hcode _ _ X.warmed
  have h3 : (Cond.initialized y.cls).before a A.U = true := hinit _ _ X.warmed
  have h4 : A.cells + (headSpec ws rm).room.cells ≤ R.cells := by rw [show (headSpec ws rm).room.cells = mc from hrc]; exact hp.1
  have h5 : A.slots + (headSpec ws rm).room.slots ≤ R.slots := by rw [show (headSpec ws rm).room.slots = ms from hrs]; exact hp.2.1
  have hPc : Pc a (A.U.calling g mk a) := hblind _ _ _ _ hp.2.2
  obtain ⟨U, Ls, c0, s0⟩ := A
  dsimp only [Pt.U, Pt.locs, Pt.cells, Pt.slots] at h1 h2 h3 h4 h5 X hn hPc ⊢
  obtain ⟨methY, cY, hmY, hcY, -, hlY, -, -, -, -⟩ := Cond.code_spec hn h2
  obtain ⟨kY, hkY, -⟩ := className_of_methodNamed hn
  have hinitY : kY.init = .initialized := Cond.initialized_spec (findClass_of_methodNamed hn) hkY h3
  have h : At U g.method c below := by rw [hg]; exact X.here
  have hlocals9 : W9 + (maxL + 11) + (headSpec ws rm).room.locals ≤ R.locals := hlocals
  have happ : (headSpec ws rm).appliesLoose y e.platform (U.calling g mk a) = true :=
    Spec.appliesLoose_calling (g := g) h hdg hn hkY hinitY
      (X.room_calling (g := g) (R' := (headSpec ws rm).room) hsize hmY hcY hframes (by rw [hlY]; omega) h4 h5) h1
  obtain ⟨mid, hmid⟩ := h.above
  have hfr : (U.setTop g).frames = (.java g :: mid) ++ below := by rw [State.frames_setTop' g h.top, hmid]; rfl
  obtain ⟨o, s₂, hsteps, -, hend, hq⟩ := Steps.callFree hM p X.admits X.cas X.clock (acts := []) hfr happ hPc trivial
  have hq' : vx_Q Qc XC mc ms free a (U.calling g mk a) o s₂ := hq
  rw [State.frames_setTop' g h.top] at hend
  obtain ⟨g₀, hg0⟩ := Option.isSome_iff_exists.mp h.top
  obtain ⟨r, hr⟩ := State.topJava?_eq_some.mp hg0
  have hr' : (({ U with heap := s₂.heap, slotsUsed := s₂.slotsUsed } : State).setVm s₂.vm).frames = .java g₀ :: r := hr
  rcases hq' with ⟨hqc, L, hfe, hL⟩ | ⟨q, rfl, E, ce, L, hx, hce, hcv, hcl, hW₂, hsm, hL⟩
  · obtain ⟨⟨v, rfl⟩, hW₂, e2, q2, q3, q4, q5, q6⟩ := id hfe
    have e3 : s₂ = ({ (U.calling g mk a).setFrames s₂.frames with heap := s₂.heap, slotsUsed := s₂.slotsUsed } : State).setVm s₂.vm := by
      have : s₂ = ({ s₂ with vm := (U.calling g mk a).vm } : State).setVm s₂.vm := rfl
      rw [e2] at this
      exact this
    obtain ⟨c₂, i₂, len₂, hc₂, hd₂, hf₂⟩ := hend
    have hW' : U.WarmedH s₂.vm := hW₂
    have hcc : c₂ = c := by
      have h1 : s₂.code? g.method = U.code? g.method := by
        rw [State.code?_eq, State.code?_eq, hW'.alike.method?]
      exact Option.some.inj (hc₂.symm.trans (h1.trans h.code))
    subst hcc
    have hlen : len₂ = len := by rw [hdg] at hd₂; cases hd₂; rfl
    subst hlen
    have hs₂ : s₂ = (({ U with heap := s₂.heap, slotsUsed := s₂.slotsUsed } : State).setVm s₂.vm).setTop { g with pc := g.pc + len₂, stack := v.toList ++ g.stack } := by
      refine e3.trans ?_
      rw [hf₂, State.calling_eq h.top, State.setFrames_setFrames, State.setTop_of_frames _ hr', hr]
      rfl
    have hsame : U.sameButNew ({ U with heap := s₂.heap, slotsUsed := s₂.slotsUsed } : State) L mc ms := by
      refine ⟨?_, q2, q3, q4, q5, q6⟩
      obtain ⟨t, ht, -⟩ := State.frames_cons hr
      show ({ U with heap := s₂.heap, slotsUsed := s₂.slotsUsed } : State) = { U.setFrames U.frames with heap := s₂.heap, slotsUsed := s₂.slotsUsed }
      rw [State.setFrames_self ht]
    subst hg
    refine Or.inl ⟨v, ⟨(({ U with heap := s₂.heap, slotsUsed := s₂.slotsUsed } : State).setVm s₂.vm), Ls ++ L, c0 + mc, s0 + ms⟩,
      ⟨X.admits, X.cas, X.clock, X.frames, X.room, X.hears, X.method, X.code, (X.here.setHeapUsed s₂.heap s₂.slotsUsed).setVm hW'.alike, X.tail, State.WarmedH.trans X.warmed hW', X.limits, X.bytes, X.same.trans (hsame.setVm s.vm)⟩,
      ⟨g, mk, s₂, L, rfl, rfl, hqc, rfl, hL, rfl, rfl⟩, ?_⟩
    show Steps p.tables e below _ ((({ U with heap := s₂.heap, slotsUsed := s₂.slotsUsed } : State).setVm s₂.vm).setTop { g with pc := g.pc + len₂, stack := v.toList ++ g.stack })
    rw [← hs₂]
    exact hsteps
  · obtain ⟨e2, q2, q3, q4, q5, q6⟩ := id hsm
    have e3 : s₂ = ({ (U.calling g mk a).setFrames s₂.frames with heap := s₂.heap, slotsUsed := s₂.slotsUsed } : State).setVm s₂.vm := by
      have : s₂ = ({ s₂ with vm := (U.calling g mk a).vm } : State).setVm s₂.vm := rfl
      rw [e2] at this
      exact this
    have hf₂ : s₂.frames = .throwing q :: .java g :: U.frames.tail := hend
    have hW' : U.WarmedH s₂.vm := hW₂
    have hs₂ : s₂ = ((({ U with heap := s₂.heap, slotsUsed := s₂.slotsUsed } : State).setVm s₂.vm).setTop g).pushFrame (.throwing q) := by
      refine e3.trans ?_
      rw [hf₂, State.calling_eq h.top, State.setFrames_setFrames, State.pushFrame, State.frames_setTop _ hr', State.setTop_of_frames _ hr', State.setFrames_setFrames, hr]
      rfl
    have hsame : U.sameButNew ({ U with heap := s₂.heap, slotsUsed := s₂.slotsUsed } : State) L mc ms := by
      refine ⟨?_, q2, q3, q4, q5, q6⟩
      obtain ⟨t, ht, -⟩ := State.frames_cons hr
      show ({ U with heap := s₂.heap, slotsUsed := s₂.slotsUsed } : State) = { U.setFrames U.frames with heap := s₂.heap, slotsUsed := s₂.slotsUsed }
      rw [State.setFrames_self ht]
    subst hg
    refine Or.inr ⟨q, ⟨(({ U with heap := s₂.heap, slotsUsed := s₂.slotsUsed } : State).setVm s₂.vm), Ls ++ L, c0 + mc, s0 + ms⟩,
      ⟨X.admits, X.cas, X.clock, X.frames, X.room, X.hears, X.method, X.code, (X.here.setHeapUsed s₂.heap s₂.slotsUsed).setVm hW'.alike, X.tail, State.WarmedH.trans X.warmed hW', X.limits, X.bytes, X.same.trans (hsame.setVm s.vm)⟩,
      ⟨g, mk, s₂, L, E, ce, rfl, rfl, hx, hce, hcv, hcl, rfl, hL, rfl, rfl⟩, ?_⟩
    show Steps p.tables e below _ (((({ U with heap := s₂.heap, slotsUsed := s₂.slotsUsed } : State).setVm s₂.vm).setTop g).pushFrame (.throwing q))
    rw [← hs₂]
    exact hsteps
end Payer
section Calls
variable {p : Program} {l : Launch} {e : Env} {R : Room} {s : State} {m : MethodId} {args : Array Value} {below : List Frame} {meth : Method} {c : Code} {T : State} {locs : List Loc} {cells slots : Nat}
theorem vx_callV (X : Stand p l e R s m args below meth c T locs cells slots) (hexec : p.tables.exec = Jvm.exec) {own C : String} {index : Nat} {y : MethodName} {bytes : ByteArray} {maxL : Nat} {ret : Option FieldType}
    (hown : s.vm.findClass own = some m.cls) (hlink : (Cond.methodLink own index y).before args s = true) (hinst : (Cond.instanceMethod y).before args s = true) (hsel : (Cond.selects C y y).before args s = true)
    (hcode : (Cond.code y bytes maxL ret).before args s = true) (hy : y.cls ≠ "java/lang/invoke/MethodHandle" ∧ y.cls ≠ "java/lang/invoke/VarHandle")
    {W9 : Nat} {Pre : Pt → Array Value → Prop} {Post : Pt → Array Value → Option Value → Pt → Prop} {PostX : Pt → Array Value → Addr → Pt → Prop} (hK : vx_Back l R p e below s args y 3 W9 Pre Post PostX)
    {b : Addr} {cellB : Cell} (hcell : T.heap[b]? = some cellB) (hobj : cellB.vm.isStatics = false) (hcls : s.vm.findClass C = some cellB.cls)
    {g : JFrame} (hg : g.method = m) (hsize : g.locals.size = c.maxLocals) {argsL rest : List Value} (hlen : ∀ sig, parseMethodDescriptor y.desc = some sig → argsL.length = sig.parameters.length)
    (hstack : g.stack = argsL.reverse ++ .ref b :: rest) (hW : 2 * g.monitorRoom + (rest.map fun v => v.category).sum ≤ W9) (hdg : decode c.code g.pc = .ok (.invokevirtual index, 3))
    (hpre : ∀ vm₁, s.WarmedH vm₁ → Pre ⟨T.setVm vm₁, locs, cells, slots⟩ (Value.ref b :: argsL).toArray) :
    (∃ (v : Option Value) (vm₁ : Vm) (B : Pt), s.WarmedH vm₁ ∧ Stand p l e R s m args below meth c B.U B.locs B.cells B.slots ∧ Post ⟨T.setVm vm₁, locs, cells, slots⟩ (Value.ref b :: argsL).toArray v B ∧
      ∀ target, Steps p.tables e below (B.U.setTop { g with pc := g.pc + 3, stack := v.toList ++ rest }) target → Steps p.tables e below (T.setTop g) target) ∨
    (∃ (q : Addr) (vm₁ : Vm) (B : Pt), s.WarmedH vm₁ ∧ Stand p l e R s m args below meth c B.U B.locs B.cells B.slots ∧ PostX ⟨T.setVm vm₁, locs, cells, slots⟩ (Value.ref b :: argsL).toArray q B ∧
      Steps p.tables e below (T.setTop g) ((B.U.setTop { g with stack := rest }).pushFrame (.throwing q))) := by
  obtain ⟨mk, methM, hnamed, hmethM, hstM, habM⟩ := Cond.instanceMethod_spec hinst
  obtain ⟨methM', cM, hmethM', -, -, -, -, -, -, hsigM⟩ := Cond.code_spec hnamed hcode
  cases hmethM.symm.trans hmethM'
  obtain ⟨c2, r2, m2, q1, q2, q3, q4, kP, hkP, hkPi⟩ := Cond.selects_spec hsel
  cases hcls.symm.trans q1
  cases (State.methodFound?_of_named hnamed hy).symm.trans q2
  cases hnamed.symm.trans q3
  have hselP : selectMethod e.platform s.vm cellB.cls mk = .method mk := by rw [Launch.admits_selectMethod X.admits]; exact q4
  obtain ⟨vm₁, X₁, hstep₁⟩ := X.invokevirtual hexec hown hlink hnamed hmethM hstM hkP hkPi hy (a := b) (cell := cellB) hcell
    (fun z h => by rw [h] at hobj; cases hobj) hselP hmethM habM hkP hkPi (g := g) hg (argsL := argsL) (rest := rest) (hlen _ hsigM) hstack hdg
  rcases hK m meth c ⟨T.setVm vm₁, locs, cells, slots⟩ { g with stack := rest } (.invokevirtual index) mk (Value.ref b :: argsL).toArray X₁ hg hsize hdg hW (X₁.named hnamed) (hpre vm₁ X₁.warmed) with ⟨v, B, X', hpost, hsteps⟩ | ⟨q, B, X', hpost, hsteps⟩
  · exact Or.inl ⟨v, vm₁, B, X₁.warmed, X', hpost, fun target h => hstep₁ _ fun acts => by rw [doInvoke_state]; exact hsteps.trans h⟩
  · exact Or.inr ⟨q, vm₁, B, X₁.warmed, X', hpost, hstep₁ _ fun acts => by rw [doInvoke_state]; exact hsteps⟩
theorem vx_callS (X : Stand p l e R s m args below meth c T locs cells slots) (hexec : p.tables.exec = Jvm.exec) {own : String} {index : Nat} {y : MethodName} {bytes : ByteArray} {maxL : Nat} {ret : Option FieldType}
    (hown : s.vm.findClass own = some m.cls) (hlink : (Cond.methodLink own index y).before args s = true) (hstat : (Cond.static y).before args s = true) (hinit : (Cond.initialized y.cls).before args s = true)
    (hcode : (Cond.code y bytes maxL ret).before args s = true) (hy : y.cls ≠ "java/lang/invoke/MethodHandle" ∧ y.cls ≠ "java/lang/invoke/VarHandle")
    {W9 : Nat} {Pre : Pt → Array Value → Prop} {Post : Pt → Array Value → Option Value → Pt → Prop} {PostX : Pt → Array Value → Addr → Pt → Prop} (hK : vx_Back l R p e below s args y 3 W9 Pre Post PostX)
    {g : JFrame} (hg : g.method = m) (hsize : g.locals.size = c.maxLocals) {argsL rest : List Value} (hlen : ∀ sig, parseMethodDescriptor y.desc = some sig → argsL.length = sig.parameters.length)
    (hstack : g.stack = argsL.reverse ++ rest) (hW : 2 * g.monitorRoom + (rest.map fun v => v.category).sum ≤ W9) (hdg : decode c.code g.pc = .ok (.invokestatic index, 3))
    (hpre : ∀ vm₁, s.WarmedH vm₁ → Pre ⟨T.setVm vm₁, locs, cells, slots⟩ argsL.toArray) :
    (∃ (v : Option Value) (vm₁ : Vm) (B : Pt), s.WarmedH vm₁ ∧ Stand p l e R s m args below meth c B.U B.locs B.cells B.slots ∧ Post ⟨T.setVm vm₁, locs, cells, slots⟩ argsL.toArray v B ∧
      ∀ target, Steps p.tables e below (B.U.setTop { g with pc := g.pc + 3, stack := v.toList ++ rest }) target → Steps p.tables e below (T.setTop g) target) ∨
    (∃ (q : Addr) (vm₁ : Vm) (B : Pt), s.WarmedH vm₁ ∧ Stand p l e R s m args below meth c B.U B.locs B.cells B.slots ∧ PostX ⟨T.setVm vm₁, locs, cells, slots⟩ argsL.toArray q B ∧
      Steps p.tables e below (T.setTop g) ((B.U.setTop { g with stack := rest }).pushFrame (.throwing q))) := by
  obtain ⟨mk, hnamed⟩ := Cond.code_named hcode
  obtain ⟨methM, cM, hmethM, -, -, -, -, -, -, hsigM⟩ := Cond.code_spec hnamed hcode
  have hstatic : methM.isStatic = true := Cond.static_spec hnamed hmethM hstat
  obtain ⟨kP, hkP, -⟩ := className_of_methodNamed hnamed
  have hinitP : kP.init = .initialized := Cond.initialized_spec (findClass_of_methodNamed hnamed) hkP hinit
  obtain ⟨vm₁, X₁, hstep₁⟩ := X.invokestatic hexec hown hlink hnamed hmethM hstatic hkP hinitP hy (g := g) hg (argsL := argsL) (rest := rest) (hlen _ hsigM) hstack hdg
  rcases hK m meth c ⟨T.setVm vm₁, locs, cells, slots⟩ { g with stack := rest } (.invokestatic index) mk argsL.toArray X₁ hg hsize hdg hW (X₁.named hnamed) (hpre vm₁ X₁.warmed) with ⟨v, B, X', hpost, hsteps⟩ | ⟨q, B, X', hpost, hsteps⟩
  · exact Or.inl ⟨v, vm₁, B, X₁.warmed, X', hpost, fun target h => hstep₁ _ fun acts => by rw [doInvoke_state]; exact hsteps.trans h⟩
  · exact Or.inr ⟨q, vm₁, B, X₁.warmed, X', hpost, hstep₁ _ fun acts => by rw [doInvoke_state]; exact hsteps⟩
end Calls
theorem vx_cls {s : State} {T : State} {vm₁ : Vm} {E : String} {k : ClassId} (hW : s.WarmedH vm₁) (h : (T.setVm vm₁).vm.findClass E = some k) : s.vm.findClass E = some k := by
  have h1 : vm₁.findClass E = some k := h
  rw [hW.alike.findClass] at h1
  exact h1
/-- the method's frame g, with q thrown over it -/
def vx_W (p : Program) (l : Launch) (e : Env) (R : Room) (s : State) (m : MethodId) (args : Array Value) (below : List Frame) (meth : Method) (c : Code) (H : Heap) (locs : List Loc) (cells slots : Nat) (Q : State → Prop) (g : JFrame) (q : Addr) : Prop :=
  ∀ T : State, T.heap = H → Stand p l e R s m args below meth c T locs cells slots → ∃ t, Steps p.tables e below ((T.setTop g).pushFrame (.throwing q)) t ∧ Q t
def vx_Run (p : Program) (l : Launch) (e : Env) (R : Room) (s : State) (m : MethodId) (args : Array Value) (below : List Frame) (meth : Method) (c : Code) (H : Heap) (locs : List Loc) (cells slots mc ms : Nat) (g : JFrame) (rest : List Value) (Qa : State → Outcome → State → Prop) (XC : String → State → State → Prop) (free : Addr → Prop) : Prop :=
  ∀ T : State, T.heap = H → Stand p l e R s m args below meth c T locs cells slots →
    (∃ (v : Option Value) (st₀ t T' : State) (L : List Loc), st₀.heap = H ∧ Stand p l e R s m args below meth c T' (locs ++ L) (cells + mc) (slots + ms) ∧ (∀ q ∈ L, free q.base) ∧ T'.heap = t.heap ∧ T'.vm = t.vm ∧ Qa st₀ (.returned v) t ∧
      Goes p e below T g T' { g with pc := g.pc + 3, stack := v.toList ++ rest }) ∨
    (∃ (q : Addr) (st₀ t T' : State) (L : List Loc) (E : String) (ce : Cell), st₀.heap = H ∧ Stand p l e R s m args below meth c T' (locs ++ L) (cells + mc) (slots + ms) ∧ (∀ z ∈ L, free z.base) ∧ T'.heap = t.heap ∧ T'.vm = t.vm ∧ XC E st₀ t ∧ t.heap[q]? = some ce ∧ ce.vm = .none ∧ s.vm.findClass E = some ce.cls ∧
      Steps p.tables e below (T.setTop g) ((T'.setTop { g with stack := rest }).pushFrame (.throwing q)))
def vx_X {S : Type} (px : S → Prop) (B : String → S → State → Prop) (A : Nat → Prop) : String → State → State → Prop := fun E st t => ∃ u : S, px u ∧ B E u t ∧ va_F A st t
section Runs
variable {p : Program} {l : Launch} {e : Env} {R : Room} {s : State} {m : MethodId} {args : Array Value} {below : List Frame} {meth : Method} {c : Code} {H : Heap} {locs : List Loc} {cells slots : Nat}
variable {y : MethodName} {bytes cc : ByteArray} {maxL nL mc ms n index : Nat} {ret : Option FieldType} {ws : List Cond} {rm : Room} {Pc : Array Value → State → Prop} {Qc : Array Value → State → Outcome → State → Prop} {XC : String → State → State → Prop} {free : Addr → Prop} {Ts : List Cond} {own C : String} {b : Addr} {As rest : List Value} {g : JFrame}
theorem vx_callBack (cb : CallB R s args own index y bytes maxL ret ws rm mc ms n) (hM : vx_Met l y ws rm Pc Qc XC mc ms free) (hbl : FrameBlind Pc) : vx_Back l R p e below s args y 3 8 (PreOf R mc ms Pc) (PostOf Qc mc ms free) (vx_Post XC mc ms free) := by
  obtain ⟨hrc, hrs, hfr, hlo, hws, hcw, -, hini, -⟩ := cb
  exact vx_back (bytes := bytes) (maxL := maxL) (ret := ret) hM hbl hrc hrs hfr hlo hws hcw (fun a' U hW => word_at hW (Or.inl (by first | rfl | simp [Cond.onTables, Cond.keeps, Cond.steady])) hini)
theorem vx_runV (S : CallFix p m c cc nL s args Ts own) (hM : vx_Met l y ws rm Pc Qc XC mc ms free) (cw : CallW R s args own C index y bytes maxL ret ws rm mc ms n) (hp : PreV s H C b Pc As)
    (hg : g.method = m) (hn : As.length = n) (hsize : g.locals.size = nL) (hstack : g.stack = As.reverse ++ .ref b :: rest) (hW : 2 * g.monitorRoom + (rest.map fun v => v.category).sum ≤ 8) (hdg : decode cc g.pc = .ok (.invokevirtual index, 3)) (hf : cells + mc ≤ R.cells ∧ slots + ms ≤ R.slots) :
    vx_Run p l e R s m args below meth c H locs cells slots mc ms g rest (Qc (Value.ref b :: As).toArray) XC free := by
  have hK : vx_Back l R p e below s args y 3 8 (PreOf R mc ms Pc) (PostOf Qc mc ms free) (vx_Post XC mc ms free) := vx_callBack cw.1 hM hp.1
  obtain ⟨⟨-, -, -, -, -, -, hcode, -, hy, hlen, hl⟩, hin, hse⟩ := cw
  obtain ⟨hx, hb, hml, ho, -⟩ := S
  obtain ⟨-, ⟨cellB, hcB, hoB, hclB⟩, hPc⟩ := hp
  intro T hT X
  rcases vx_callV X hx (C := C) (bytes := bytes) (maxL := maxL) (ret := ret) ho hl hin hse hcode hy hK (by rw [hT]; exact hcB) hoB hclB hg (hsize.trans hml.symm) (argsL := As) (rest := rest) (fun sig h => hn.trans (hlen sig h)) hstack hW (by rw [hb]; exact hdg)
    (fun vm₁ hW₁ => ⟨hf.1, hf.2, hPc (T.setVm vm₁) hT hW₁⟩) with ⟨v, vm₁, ⟨U', l2, c2, s2⟩, hW₁, X', ⟨g', mk, t, L, e1, e2, hq, h1, hL, h2, h3⟩, st⟩ | ⟨q, vm₁, ⟨U', l2, c2, s2⟩, hW₁, X', ⟨g', mk, t, L, E, ce, e1, e2, hq, hce, hcv, hcl, h1, hL, h2, h3⟩, st⟩
  · dsimp only [Pt.U, Pt.locs, Pt.cells, Pt.slots] at X' e1 e2 h1 h2 h3 st
    subst h1; subst h2; subst h3
    exact Or.inl ⟨v, (T.setVm vm₁).calling g' mk (Value.ref b :: As).toArray, t, U', L, hT, X', hL, e1, e2, hq, st⟩
  · dsimp only [Pt.U, Pt.locs, Pt.cells, Pt.slots] at X' e1 e2 h1 h2 h3 st hcl
    subst h1; subst h2; subst h3
    exact Or.inr ⟨q, (T.setVm vm₁).calling g' mk (Value.ref b :: As).toArray, t, U', L, E, ce, hT, X', hL, e1, e2, hq, hce, hcv, vx_cls hW₁ hcl, st⟩
theorem vx_runS (S : CallFix p m c cc nL s args Ts own) (hM : vx_Met l y ws rm Pc Qc XC mc ms free) (cw : CallB R s args own index y bytes maxL ret ws rm mc ms n ∧ (Cond.static y).before args s = true) (hp : PreS s H Pc As)
    (hg : g.method = m) (hn : As.length = n) (hsize : g.locals.size = nL) (hstack : g.stack = As.reverse ++ rest) (hW : 2 * g.monitorRoom + (rest.map fun v => v.category).sum ≤ 8) (hdg : decode cc g.pc = .ok (.invokestatic index, 3)) (hf : cells + mc ≤ R.cells ∧ slots + ms ≤ R.slots) :
    vx_Run p l e R s m args below meth c H locs cells slots mc ms g rest (Qc As.toArray) XC free := by
  have hK : vx_Back l R p e below s args y 3 8 (PreOf R mc ms Pc) (PostOf Qc mc ms free) (vx_Post XC mc ms free) := vx_callBack cw.1 hM hp.1
  obtain ⟨⟨-, -, -, -, -, -, hcode, hini, hy, hlen, hl⟩, hstt⟩ := cw
  obtain ⟨hx, hb, hml, ho, -⟩ := S
  intro T hT X
  rcases vx_callS X hx (bytes := bytes) (maxL := maxL) (ret := ret) ho hl hstt hini hcode hy hK hg (hsize.trans hml.symm) (argsL := As) (rest := rest) (fun sig h => hn.trans (hlen sig h)) hstack hW (by rw [hb]; exact hdg)
    (fun vm₁ hW₁ => ⟨hf.1, hf.2, hp.2 (T.setVm vm₁) hT hW₁⟩) with ⟨v, vm₁, ⟨U', l2, c2, s2⟩, hW₁, X', ⟨g', mk, t, L, e1, e2, hq, h1, hL, h2, h3⟩, st⟩ | ⟨q, vm₁, ⟨U', l2, c2, s2⟩, hW₁, X', ⟨g', mk, t, L, E, ce, e1, e2, hq, hce, hcv, hcl, h1, hL, h2, h3⟩, st⟩
  · dsimp only [Pt.U, Pt.locs, Pt.cells, Pt.slots] at X' e1 e2 h1 h2 h3 st
    subst h1; subst h2; subst h3
    exact Or.inl ⟨v, (T.setVm vm₁).calling g' mk As.toArray, t, U', L, hT, X', hL, e1, e2, hq, st⟩
  · dsimp only [Pt.U, Pt.locs, Pt.cells, Pt.slots] at X' e1 e2 h1 h2 h3 st hcl
    subst h1; subst h2; subst h3
    exact Or.inr ⟨q, (T.setVm vm₁).calling g' mk As.toArray, t, U', L, E, ce, hT, X', hL, e1, e2, hq, hce, hcv, vx_cls hW₁ hcl, st⟩
end Runs
section Rows
variable {p : Program} {l : Launch} {e : Env} {R : Room} {s : State} {m : MethodId} {args : Array Value} {below : List Frame} {meth : Method} {c : Code} {H : Heap} {locs : List Loc} {cells slots : Nat} {Q : State → Prop}
variable {mc ms : Nat} {free : Addr → Prop} {A0 A1 : Nat → Prop} {H0 : Heap} {a : Array Value} {pc : Nat} {ls : Array Slot} {st0 rest : List Value}
theorem vx_keep {st₀ t T' : State} {L : List Loc} (h0 : st₀.heap = H) (e1 : T'.heap = t.heap) (hS : va_S A0 H0 H locs) (hA : ∀ q, q < H.size → A1 q → A0 q) (hf : ∀ q, free q → A0 q) (hL : ∀ q ∈ L, free q.base) (hF : va_F A1 st₀ t) :
    H.size ≤ T'.heap.size ∧ (∀ q : Nat, q < H.size → ¬ A1 q → T'.heap[q]? = H[q]?) ∧ va_S A0 H0 T'.heap (locs ++ L) := by
  obtain ⟨hz, hk⟩ := hF
  rw [h0] at hz hk
  exact ⟨by rw [e1]; exact hz, fun q h1 h2 => by rw [e1]; exact hk q h1 h2,
    ⟨Nat.le_trans hS.1 (by rw [e1]; exact hz), fun q h1 h2 => by rw [e1, hk q (Nat.lt_of_lt_of_le h1 hS.1) (fun z => h2 (hA q (Nat.lt_of_lt_of_le h1 hS.1) z))]; exact hS.2.1 q h1 h2, fun q hq => by
      rcases List.mem_append.mp hq with h | h
      · exact hS.2.2 q h
      · exact hf _ (hL q h)⟩⟩
theorem vx_calli {S SX : Type} {post : Int32 → S → Prop} {px : SX → Prop} {B : S → State → Prop} {BX : String → SX → State → Prop} {AX : Nat → Prop} (hr : vx_Run p l e R s m args below meth c H locs cells slots mc ms (F0 m pc ls st0) rest (va_Qi post B A1 a) (vx_X px BX AX) free) (hS : va_S A0 H0 H locs) (hA : ∀ q, q < H.size → A1 q → A0 q) (hf : ∀ q, free q → A0 q) (hAX : ∀ q, q < H.size → AX q → A0 q)
    (kx : ∀ (E : String) (ce : Cell) (q9 : Addr) (u : SX) (t : State) (H1 : Heap) (locs1 : List Loc), t.heap = H1 → s.vm.Alike t.vm → px u → BX E u t → H.size ≤ H1.size → (∀ q : Nat, q < H.size → ¬ AX q → H1[q]? = H[q]?) → va_S A0 H0 H1 locs1 → H1[q9]? = some ce → ce.vm = .none → s.vm.findClass E = some ce.cls → vx_W p l e R s m args below meth c H1 locs1 (cells + mc) (slots + ms) Q (F0 m pc ls rest) q9)
    (kk : ∀ (r : Int32) (u : S) (t : State) (H1 : Heap) (locs1 : List Loc), t.heap = H1 → s.vm.Alike t.vm → post r u → B u t → H.size ≤ H1.size → (∀ q : Nat, q < H.size → ¬ A1 q → H1[q]? = H[q]?) → va_S A0 H0 H1 locs1 → W p l e R s m args below meth c H1 locs1 (cells + mc) (slots + ms) Q (F0 m (pc + 3) ls (.int r :: rest))) : W p l e R s m args below meth c H locs cells slots Q (F0 m pc ls st0) := by
  intro T hT X
  rcases hr T hT X with ⟨v, st₀, t, T', L, h0, X', hL, e1, e2, ⟨⟨r, u, hv, hp, hb⟩, hF⟩, st⟩ | ⟨q, st₀, t, T', L, E, ce, h0, X', hL, e1, e2, ⟨u, hp, hb, hF⟩, hce, hcv, hcl, st⟩
  · cases hv
    obtain ⟨k1, k2, k3⟩ := vx_keep h0 e1 hS hA hf hL hF
    obtain ⟨t2, a1, b1⟩ := kk r u t T'.heap (locs ++ L) e1.symm (by rw [← e2]; exact X'.warmed.alike) hp hb k1 k2 k3 T' rfl X'
    exact ⟨t2, st t2 a1, b1⟩
  · obtain ⟨k1, k2, k3⟩ := vx_keep h0 e1 hS hAX hf hL hF
    obtain ⟨t2, a1, b1⟩ := kx E ce q u t T'.heap (locs ++ L) e1.symm (by rw [← e2]; exact X'.warmed.alike) hp hb k1 k2 k3 (by rw [e1]; exact hce) hcv hcl T' rfl X'
    exact ⟨t2, st.trans a1, b1⟩
theorem vx_calll {S SX : Type} {post : Int64 → S → Prop} {px : SX → Prop} {B : S → State → Prop} {BX : String → SX → State → Prop} {AX : Nat → Prop} (hr : vx_Run p l e R s m args below meth c H locs cells slots mc ms (F0 m pc ls st0) rest (va_Ql post B A1 a) (vx_X px BX AX) free) (hS : va_S A0 H0 H locs) (hA : ∀ q, q < H.size → A1 q → A0 q) (hf : ∀ q, free q → A0 q) (hAX : ∀ q, q < H.size → AX q → A0 q)
    (kx : ∀ (E : String) (ce : Cell) (q9 : Addr) (u : SX) (t : State) (H1 : Heap) (locs1 : List Loc), t.heap = H1 → s.vm.Alike t.vm → px u → BX E u t → H.size ≤ H1.size → (∀ q : Nat, q < H.size → ¬ AX q → H1[q]? = H[q]?) → va_S A0 H0 H1 locs1 → H1[q9]? = some ce → ce.vm = .none → s.vm.findClass E = some ce.cls → vx_W p l e R s m args below meth c H1 locs1 (cells + mc) (slots + ms) Q (F0 m pc ls rest) q9)
    (kk : ∀ (r : Int64) (u : S) (t : State) (H1 : Heap) (locs1 : List Loc), t.heap = H1 → s.vm.Alike t.vm → post r u → B u t → H.size ≤ H1.size → (∀ q : Nat, q < H.size → ¬ A1 q → H1[q]? = H[q]?) → va_S A0 H0 H1 locs1 → W p l e R s m args below meth c H1 locs1 (cells + mc) (slots + ms) Q (F0 m (pc + 3) ls (.long r :: rest))) : W p l e R s m args below meth c H locs cells slots Q (F0 m pc ls st0) := by
  intro T hT X
  rcases hr T hT X with ⟨v, st₀, t, T', L, h0, X', hL, e1, e2, ⟨⟨r, u, hv, hp, hb⟩, hF⟩, st⟩ | ⟨q, st₀, t, T', L, E, ce, h0, X', hL, e1, e2, ⟨u, hp, hb, hF⟩, hce, hcv, hcl, st⟩
  · cases hv
    obtain ⟨k1, k2, k3⟩ := vx_keep h0 e1 hS hA hf hL hF
    obtain ⟨t2, a1, b1⟩ := kk r u t T'.heap (locs ++ L) e1.symm (by rw [← e2]; exact X'.warmed.alike) hp hb k1 k2 k3 T' rfl X'
    exact ⟨t2, st t2 a1, b1⟩
  · obtain ⟨k1, k2, k3⟩ := vx_keep h0 e1 hS hAX hf hL hF
    obtain ⟨t2, a1, b1⟩ := kx E ce q u t T'.heap (locs ++ L) e1.symm (by rw [← e2]; exact X'.warmed.alike) hp hb k1 k2 k3 (by rw [e1]; exact hce) hcv hcl T' rfl X'
    exact ⟨t2, st.trans a1, b1⟩
theorem vx_callf {S SX : Type} {post : UInt32 → S → Prop} {px : SX → Prop} {B : S → State → Prop} {BX : String → SX → State → Prop} {AX : Nat → Prop} (hr : vx_Run p l e R s m args below meth c H locs cells slots mc ms (F0 m pc ls st0) rest (va_Qf post B A1 a) (vx_X px BX AX) free) (hS : va_S A0 H0 H locs) (hA : ∀ q, q < H.size → A1 q → A0 q) (hf : ∀ q, free q → A0 q) (hAX : ∀ q, q < H.size → AX q → A0 q)
    (kx : ∀ (E : String) (ce : Cell) (q9 : Addr) (u : SX) (t : State) (H1 : Heap) (locs1 : List Loc), t.heap = H1 → s.vm.Alike t.vm → px u → BX E u t → H.size ≤ H1.size → (∀ q : Nat, q < H.size → ¬ AX q → H1[q]? = H[q]?) → va_S A0 H0 H1 locs1 → H1[q9]? = some ce → ce.vm = .none → s.vm.findClass E = some ce.cls → vx_W p l e R s m args below meth c H1 locs1 (cells + mc) (slots + ms) Q (F0 m pc ls rest) q9)
    (kk : ∀ (r : UInt32) (u : S) (t : State) (H1 : Heap) (locs1 : List Loc), t.heap = H1 → s.vm.Alike t.vm → post r u → B u t → H.size ≤ H1.size → (∀ q : Nat, q < H.size → ¬ A1 q → H1[q]? = H[q]?) → va_S A0 H0 H1 locs1 → W p l e R s m args below meth c H1 locs1 (cells + mc) (slots + ms) Q (F0 m (pc + 3) ls (.float r :: rest))) : W p l e R s m args below meth c H locs cells slots Q (F0 m pc ls st0) := by
  intro T hT X
  rcases hr T hT X with ⟨v, st₀, t, T', L, h0, X', hL, e1, e2, ⟨⟨r, u, hv, hp, hb⟩, hF⟩, st⟩ | ⟨q, st₀, t, T', L, E, ce, h0, X', hL, e1, e2, ⟨u, hp, hb, hF⟩, hce, hcv, hcl, st⟩
  · cases hv
    obtain ⟨k1, k2, k3⟩ := vx_keep h0 e1 hS hA hf hL hF
    obtain ⟨t2, a1, b1⟩ := kk r u t T'.heap (locs ++ L) e1.symm (by rw [← e2]; exact X'.warmed.alike) hp hb k1 k2 k3 T' rfl X'
    exact ⟨t2, st t2 a1, b1⟩
  · obtain ⟨k1, k2, k3⟩ := vx_keep h0 e1 hS hAX hf hL hF
    obtain ⟨t2, a1, b1⟩ := kx E ce q u t T'.heap (locs ++ L) e1.symm (by rw [← e2]; exact X'.warmed.alike) hp hb k1 k2 k3 (by rw [e1]; exact hce) hcv hcl T' rfl X'
    exact ⟨t2, st.trans a1, b1⟩
theorem vx_calld {S SX : Type} {post : UInt64 → S → Prop} {px : SX → Prop} {B : S → State → Prop} {BX : String → SX → State → Prop} {AX : Nat → Prop} (hr : vx_Run p l e R s m args below meth c H locs cells slots mc ms (F0 m pc ls st0) rest (va_Qd post B A1 a) (vx_X px BX AX) free) (hS : va_S A0 H0 H locs) (hA : ∀ q, q < H.size → A1 q → A0 q) (hf : ∀ q, free q → A0 q) (hAX : ∀ q, q < H.size → AX q → A0 q)
    (kx : ∀ (E : String) (ce : Cell) (q9 : Addr) (u : SX) (t : State) (H1 : Heap) (locs1 : List Loc), t.heap = H1 → s.vm.Alike t.vm → px u → BX E u t → H.size ≤ H1.size → (∀ q : Nat, q < H.size → ¬ AX q → H1[q]? = H[q]?) → va_S A0 H0 H1 locs1 → H1[q9]? = some ce → ce.vm = .none → s.vm.findClass E = some ce.cls → vx_W p l e R s m args below meth c H1 locs1 (cells + mc) (slots + ms) Q (F0 m pc ls rest) q9)
    (kk : ∀ (r : UInt64) (u : S) (t : State) (H1 : Heap) (locs1 : List Loc), t.heap = H1 → s.vm.Alike t.vm → post r u → B u t → H.size ≤ H1.size → (∀ q : Nat, q < H.size → ¬ A1 q → H1[q]? = H[q]?) → va_S A0 H0 H1 locs1 → W p l e R s m args below meth c H1 locs1 (cells + mc) (slots + ms) Q (F0 m (pc + 3) ls (.double r :: rest))) : W p l e R s m args below meth c H locs cells slots Q (F0 m pc ls st0) := by
  intro T hT X
  rcases hr T hT X with ⟨v, st₀, t, T', L, h0, X', hL, e1, e2, ⟨⟨r, u, hv, hp, hb⟩, hF⟩, st⟩ | ⟨q, st₀, t, T', L, E, ce, h0, X', hL, e1, e2, ⟨u, hp, hb, hF⟩, hce, hcv, hcl, st⟩
  · cases hv
    obtain ⟨k1, k2, k3⟩ := vx_keep h0 e1 hS hA hf hL hF
    obtain ⟨t2, a1, b1⟩ := kk r u t T'.heap (locs ++ L) e1.symm (by rw [← e2]; exact X'.warmed.alike) hp hb k1 k2 k3 T' rfl X'
    exact ⟨t2, st t2 a1, b1⟩
  · obtain ⟨k1, k2, k3⟩ := vx_keep h0 e1 hS hAX hf hL hF
    obtain ⟨t2, a1, b1⟩ := kx E ce q u t T'.heap (locs ++ L) e1.symm (by rw [← e2]; exact X'.warmed.alike) hp hb k1 k2 k3 (by rw [e1]; exact hce) hcv hcl T' rfl X'
    exact ⟨t2, st.trans a1, b1⟩
theorem vx_callv {S SX : Type} {post : S → Prop} {px : SX → Prop} {B : S → State → Prop} {BX : String → SX → State → Prop} {AX : Nat → Prop} (hr : vx_Run p l e R s m args below meth c H locs cells slots mc ms (F0 m pc ls st0) rest (va_Qv post B A1 a) (vx_X px BX AX) free) (hS : va_S A0 H0 H locs) (hA : ∀ q, q < H.size → A1 q → A0 q) (hf : ∀ q, free q → A0 q) (hAX : ∀ q, q < H.size → AX q → A0 q)
    (kx : ∀ (E : String) (ce : Cell) (q9 : Addr) (u : SX) (t : State) (H1 : Heap) (locs1 : List Loc), t.heap = H1 → s.vm.Alike t.vm → px u → BX E u t → H.size ≤ H1.size → (∀ q : Nat, q < H.size → ¬ AX q → H1[q]? = H[q]?) → va_S A0 H0 H1 locs1 → H1[q9]? = some ce → ce.vm = .none → s.vm.findClass E = some ce.cls → vx_W p l e R s m args below meth c H1 locs1 (cells + mc) (slots + ms) Q (F0 m pc ls rest) q9)
    (kk : ∀ (u : S) (t : State) (H1 : Heap) (locs1 : List Loc), t.heap = H1 → s.vm.Alike t.vm → post u → B u t → H.size ≤ H1.size → (∀ q : Nat, q < H.size → ¬ A1 q → H1[q]? = H[q]?) → va_S A0 H0 H1 locs1 → W p l e R s m args below meth c H1 locs1 (cells + mc) (slots + ms) Q (F0 m (pc + 3) ls (rest))) : W p l e R s m args below meth c H locs cells slots Q (F0 m pc ls st0) := by
  intro T hT X
  rcases hr T hT X with ⟨v, st₀, t, T', L, h0, X', hL, e1, e2, ⟨⟨u, hv, hp, hb⟩, hF⟩, st⟩ | ⟨q, st₀, t, T', L, E, ce, h0, X', hL, e1, e2, ⟨u, hp, hb, hF⟩, hce, hcv, hcl, st⟩
  · cases hv
    obtain ⟨k1, k2, k3⟩ := vx_keep h0 e1 hS hA hf hL hF
    obtain ⟨t2, a1, b1⟩ := kk u t T'.heap (locs ++ L) e1.symm (by rw [← e2]; exact X'.warmed.alike) hp hb k1 k2 k3 T' rfl X'
    exact ⟨t2, st t2 a1, b1⟩
  · obtain ⟨k1, k2, k3⟩ := vx_keep h0 e1 hS hAX hf hL hF
    obtain ⟨t2, a1, b1⟩ := kx E ce q u t T'.heap (locs ++ L) e1.symm (by rw [← e2]; exact X'.warmed.alike) hp hb k1 k2 k3 (by rw [e1]; exact hce) hcv hcl T' rfl X'
    exact ⟨t2, st.trans a1, b1⟩
/-- caught by the row x of this method's table; the rows ahead don't take it -/
theorem vx_catch {own name : String} {E : String} {ce : Cell} {q : Addr} (hown : s.vm.findClass own = some m.cls) (pre : List ExceptionTableEntry) (x : ExceptionTableEntry) (suf : List ExceptionTableEntry) (hsplit : c.exceptionTable.toList = pre ++ x :: suf)
    (hpass : ∀ z ∈ pre, covers z pc = false ∨ (z.catchType ≠ 0 ∧ ∃ nm : String, (Cond.classLink own z.catchType nm).before args s = true ∧ va_Nc E nm s)) (hx : covers x pc = true) (h0 : x.catchType ≠ 0)
    (hlink : (Cond.classLink own x.catchType name).before args s = true) (hcast : (Cond.castable E name).before args s = true) (hcell : H[q]? = some ce) (hv : ce.vm = .none) (hcl : s.vm.findClass E = some ce.cls)
    (kk : W p l e R s m args below meth c H locs cells slots Q (F0 m x.handlerPc ls [.ref q])) : vx_W p l e R s m args below meth c H locs cells slots Q (F0 m pc ls rest) q := by
  intro T hT X
  have hpl : e.platform.magicAccessors = ({} : Platform).magicAccessors := by rw [X.admits.platform]
  obtain ⟨c3, c4, hc3, hc4, hasg⟩ := Cond.castable_spec hcast
  cases Option.some.inj (hc3.symm.trans hcl)
  obtain ⟨c5, hc5, hcl5⟩ := Cond.classLink_spec hown hlink e.platform hpl
  cases Option.some.inj (hc4.symm.trans hc5)
  obtain ⟨vm', X', st⟩ := X.thenCaughtThrough q (g := F0 m pc ls rest) rfl (Steps.refl _) (by rw [hT]; exact hcell) (by rw [hv]; rfl) (by obtain ⟨k9, h9, -⟩ := Vm.findClass_spec hcl; exact ⟨k9, h9⟩) pre x suf hsplit
    (fun z hz => by
      rcases hpass z hz with h | ⟨hz0, nm, hl1, hn1⟩
      · exact Or.inl h
      · obtain ⟨c6, hc6, hcl6⟩ := Cond.classLink_spec hown hl1 e.platform hpl
        obtain ⟨a8, b8, h1, h2, h3⟩ := hn1
        cases Option.some.inj (h1.symm.trans hcl)
        cases Option.some.inj (h2.symm.trans hc6)
        exact Or.inr ⟨hz0, _, hcl6, h3⟩) hx (Or.inr ⟨h0, c4, hcl5, hasg⟩)
  obtain ⟨t, a1, b1⟩ := kk (T.setVm vm') hT X'
  exact ⟨t, st.trans a1, b1⟩
end Rows
section Ends
variable {p : Program} {l : Launch} {e : Env} {R : Room} {s : State} {m : MethodId} {args : Array Value} {below : List Frame} {meth : Method} {c : Code} {H : Heap} {locs : List Loc} {cells slots : Nat} {Q : State → Prop}
variable {mc ms : Nat} {free : Addr → Prop} {A0 A1 : Nat → Prop} {H0 : Heap} {a : Array Value} {ls : Array Slot} {st0 rest : List Value}
variable {Qc : Array Value → State → Outcome → State → Prop} {XC : String → State → State → Prop}
/-- what a body that may throw owes at its end -/
def vx_MQ (below : List Frame) (Qc : Array Value → State → Outcome → State → Prop) (XC : String → State → State → Prop) (a : Array Value) (s : State) (mc ms : Nat) (free : Addr → Prop) : State → Prop := fun t =>
  ∃ o, t.status = .running ∧ Ended t below o ∧ vx_Q Qc XC mc ms free a s o t
theorem vx_ret {g : JFrame} {mc ms : Nat} (k : W p l e R s m args below meth c H locs cells slots (MQ below Qc args s mc ms free) g) : W p l e R s m args below meth c H locs cells slots (vx_MQ below Qc XC args s mc ms free) g := by
  intro T hT X
  obtain ⟨t, a1, o, b1, b2, b3, b4⟩ := k T hT X
  exact ⟨t, a1, o, b1, b2, Or.inl ⟨b3, b4⟩⟩
/-- not caught here: it goes on to the caller -/
theorem vx_widen {g : JFrame} {q : Addr} {k n : Nat} (h1 : cells ≤ k) (h2 : slots ≤ n) (kk : vx_W p l e R s m args below meth c H locs k n Q g q) : vx_W p l e R s m args below meth c H locs cells slots Q g q := fun T hT X => kk T hT (stand_widen X h1 h2)
theorem vx_out {pc : Nat} {E : String} {ce : Cell} {q : Addr} {mc ms : Nat} (hout : ∀ x ∈ c.exceptionTable.toList, covers x pc = false) (hlocks : meth.locks = false) (hcell : H[q]? = some ce) (hv : ce.vm = .none) (hcl : s.vm.findClass E = some ce.cls)
    (hx : ∀ t : State, t.heap = H → s.vm.Alike t.vm → XC E s t) (hf : ∀ z ∈ locs, free z.base) (hc : cells ≤ mc) (hs : slots ≤ ms) :
    vx_W p l e R s m args below meth c H locs cells slots (vx_MQ below Qc XC args s mc ms free) (F0 m pc ls rest) q := by
  intro T hT X
  obtain ⟨st1, hrun, hend, hW, hsm⟩ := X.leaveThrown q (g := F0 m pc ls rest) rfl rfl rfl hout hlocks
  have hcell9 : (T.setFrames (.throwing q :: below)).heap[q]? = some ce := by
    show T.heap[q]? = some ce
    rw [hT]; exact hcell
  exact ⟨_, st1, .threw q, hrun, hend, Or.inr ⟨q, rfl, E, ce, locs, hx _ hT hW.alike, hcell9, hv, hcl, hW, hsm.mono hc hs, hf⟩⟩
theorem vx_frame {U : State} {k n : Nat} (h : s.sameButNew ({ U with vm := s.vm } : State) locs k n) : s.heap.size ≤ U.heap.size ∧ ∀ q : Nat, q < s.heap.size → (∀ z ∈ locs, z.base ≠ q) → U.heap[q]? = s.heap[q]? := by
  obtain ⟨-, h2, -, -, -, h6⟩ := h
  refine ⟨h2, fun q hq hz => ?_⟩
  obtain ⟨c9, e1, e2, e3, e4⟩ := h6 q _ (Array.getElem?_eq_getElem hq)
  have hs : c9.slots = (s.heap[q]).slots := Array.ext_getElem? fun i => e4 i fun hm => hz _ hm rfl
  have h9 : c9 = s.heap[q] := by
    rw [hs] at e2
    exact e2
  have e5 : U.heap[q]? = some c9 := e1
  rw [e5, h9, Array.getElem?_eq_getElem hq]
/-- the words of a throw but the four that speak of the heap -/
def vx_no (w : Cond) : Bool := decide (w ≠ .isRef (.static Bundle.tN "UNASSIGNED_STACK" Bundle.steD)) && decide (w ≠ .isRef (.static Bundle.tN "SUPPRESSED_SENTINEL" Bundle.listD)) && decide (w ≠ .laysStatic Bundle.tN "UNASSIGNED_STACK" Bundle.steD) && decide (w ≠ .laysStatic Bundle.tN "SUPPRESSED_SENTINEL" Bundle.listD)
def vx_at0 (own : String) (ic : Nat) (X : String) (names : List String) : List Cond := (Bundle.ownAtoms0 own ic X names).filter vx_no
def vx_atS (own : String) (ic : Nat) (X : String) (names : List String) : List Cond := (Bundle.ownAtoms own ic X names).filter vx_no
/-- a word that the tables alone decide, or a good one -/
def vx_ot (w : Cond) : Bool := w.onTables || goodWord w
theorem vx_ot_at {args a' : Array Value} {s U : State} {w : Cond} (hW : s.WarmedH U.vm) (hvm : s.vm = U.vm) (hg : vx_ot w = true) (h : w.before args s = true) : w.before a' U = true := by
  simp only [vx_ot, Bool.or_eq_true] at hg
  rcases hg with hg | hg
  · exact va_tabs hg hvm h
  · exact word_at hW (good_of_word hg) h
/-- a list's words: the good ones out of the method's own list, the others by premises of their own -/
theorem vx_hat {args : Array Value} {s : State} {L B : List Cond} (h1 : ∀ w ∈ L.filter goodWord, w.before args s = true) (h2 : ∀ w ∈ L.filter (fun w => !goodWord w), w ∈ B) (h3 : ∀ w ∈ B, w.before args s = true) : ∀ w ∈ L, w.before args s = true := by
  intro w hw
  by_cases g : goodWord w = true
  · exact h1 w (List.mem_filter.mpr ⟨hw, g⟩)
  · refine h3 w (h2 w (List.mem_filter.mpr ⟨hw, ?_⟩))
    show (!goodWord w) = true
    cases hgw : goodWord w
    · rfl
    · exact absurd hgw g
theorem vx_c {args : Array Value} {s : State} {w : Cond} {B : List Cond} (h : w.before args s = true) (t : ∀ w ∈ B, w.before args s = true) : ∀ w' ∈ w :: B, w'.before args s = true := fun w' h' => (List.mem_cons.mp h').elim (fun e => by rw [e]; exact h) (t w')
theorem vx_n {args : Array Value} {s : State} : ∀ w ∈ ([] : List Cond), w.before args s = true := fun _ h => nomatch h
theorem vx_own {args : Array Value} {s : State} {L : List Cond} (h1 : ∀ w ∈ L.filter vx_no, w.before args s = true)
    (hU : (Cond.isRef (.static Bundle.tN "UNASSIGNED_STACK" Bundle.steD)).before args s = true) (hN : (Cond.isRef (.static Bundle.tN "SUPPRESSED_SENTINEL" Bundle.listD)).before args s = true)
    (lU : (Cond.laysStatic Bundle.tN "UNASSIGNED_STACK" Bundle.steD).before args s = true) (lN : (Cond.laysStatic Bundle.tN "SUPPRESSED_SENTINEL" Bundle.listD).before args s = true) : ∀ w ∈ L, w.before args s = true := by
  intro w hw
  by_cases e1 : w = .isRef (.static Bundle.tN "UNASSIGNED_STACK" Bundle.steD)
  · rw [e1]; exact hU
  · by_cases e2 : w = .isRef (.static Bundle.tN "SUPPRESSED_SENTINEL" Bundle.listD)
    · rw [e2]; exact hN
    · by_cases e3 : w = .laysStatic Bundle.tN "UNASSIGNED_STACK" Bundle.steD
      · rw [e3]; exact lU
      · by_cases e4 : w = .laysStatic Bundle.tN "SUPPRESSED_SENTINEL" Bundle.listD
        · rw [e4]; exact lN
        · exact h1 w (List.mem_filter.mpr ⟨hw, by unfold vx_no; rw [decide_eq_true e1, decide_eq_true e2, decide_eq_true e3, decide_eq_true e4]; rfl⟩)
/-- where a static field lies, its class's statics cell in H -/
def vx_L (C n d : String) (A : Nat → Prop) (U : State) (H : Heap) : Prop := ∃ (c : ClassId) (k : Class) (i : Nat) (f : Field) (a : Nat) (cell : Cell), U.vm.findClass C = some c ∧ U.fieldFound? C n d = some (c, k, i, f) ∧ f.isStatic = true ∧ k.statics = some a ∧ H[a]? = some cell ∧ cell.vm.isStatics = true ∧ cell.cls = c ∧ f.slot < cell.slots.size ∧ k.staticTypes[f.slot]? = some f.type ∧ ¬ A a
theorem vx_L.moved {C n d : String} {A : Nat → Prop} {u U : State} {H : Heap} (hvm : u.vm.Alike U.vm) (h : vx_L C n d A u H) : vx_L C n d A U H := by
  obtain ⟨c, k, i, f, a, cell, h1, h2, h3, h4, h5, h6, h7, h8, h9, h10⟩ := h
  obtain ⟨k', hi', he⟩ := State.fieldFound?_setVm hvm h2
  exact ⟨c, k', i, f, a, cell, by rw [hvm.findClass]; exact h1, hi', h3, by rw [he]; exact h4, h5, h6, h7, h8, by rw [he]; exact h9, h10⟩
theorem vx_L.kept {C n d : String} {A : Nat → Prop} {U : State} {H H1 : Heap} (h : vx_L C n d A U H) (hq : ∀ a : Nat, a < H.size → ¬ A a → H1[a]? = H[a]?) : vx_L C n d A U H1 := by
  obtain ⟨c, k, i, f, a, cell, h1, h2, h3, h4, h5, h6, h7, h8, h9, h10⟩ := h
  exact ⟨c, k, i, f, a, cell, h1, h2, h3, h4, by rw [hq a (Array.getElem?_eq_some_iff.mp h5).1 h10]; exact h5, h6, h7, h8, h9, h10⟩
theorem vx_L.narrow {C n d : String} {A B : Nat → Prop} {U : State} {H : Heap} (h : vx_L C n d A U H) (hAB : ∀ q, B q → A q) : vx_L C n d B U H := by
  obtain ⟨c, k, i, f, a, cell, h1, h2, h3, h4, h5, h6, h7, h8, h9, h10⟩ := h
  exact ⟨c, k, i, f, a, cell, h1, h2, h3, h4, h5, h6, h7, h8, h9, fun z => h10 (hAB _ z)⟩
theorem vx_L.word {C n d : String} {A : Nat → Prop} {s : State} {args : Array Value} (h : vx_L C n d A s s.heap) : (Cond.laysStatic C n d).before args s = true := by
  obtain ⟨c, k, i, f, a, cell, h1, h2, h3, h4, h5, h6, h7, h8, h9, -⟩ := h
  show (Cond.laysStatic C n d).holds args s none s [] = true
  exact Cond.laysStatic_of h1 h2 h3 h4 h5 h6 h7 h8 h9
/-- .. and what it holds: null or some reference -/
def vx_Zq (C n d : String) (A : Nat → Prop) (U : State) (H : Heap) : Prop := va_Zq C n d A U H ∧ vx_L C n d A U H
theorem vx_Zq.moved {C n d : String} {A : Nat → Prop} {u U : State} {H : Heap} (hvm : u.vm.Alike U.vm) (h : vx_Zq C n d A u H) : vx_Zq C n d A U H := ⟨va_Zq.moved hvm h.1, vx_L.moved hvm h.2⟩
theorem vx_Zq.kept {C n d : String} {A : Nat → Prop} {U : State} {H H1 : Heap} (h : vx_Zq C n d A U H) (hq : ∀ a : Nat, a < H.size → ¬ A a → H1[a]? = H[a]?) : vx_Zq C n d A U H1 := ⟨va_Zq.kept h.1 hq, vx_L.kept h.2 hq⟩
theorem vx_Zq.narrow {C n d : String} {A B : Nat → Prop} {U : State} {H : Heap} (h : vx_Zq C n d A U H) (hAB : ∀ q, B q → A q) : vx_Zq C n d B U H := ⟨va_Zq.narrow h.1 hAB, vx_L.narrow h.2 hAB⟩
theorem vx_Zqof {args : Array Value} {s : State} {C n d : String} {A : Nat → Prop} (hl : (Cond.laysStatic C n d).before args s = true) (hini : (Cond.initialized C).before args s = true) (h : (Cond.isRef (.static C n d)).before args s = true) (hA : ∀ a : Nat, a < s.heap.size → ¬ A a) : vx_Zq C n d A s s.heap := by
  refine ⟨va_Zqof hl hini h hA, ?_⟩
  obtain ⟨c, k, i, f, a, cell, h1, h2, h3, h4, h5, h6, h7, h8, h9⟩ := Cond.laysStatic_spec hl
  exact ⟨c, k, i, f, a, cell, h1, h2, h3, h4, h5, h6, h7, h8, h9, hA a (Array.getElem?_eq_some_iff.mp h5).1⟩
theorem vx_isRef {C n d : String} {v : Value} {A : Nat → Prop} {s : State} {args : Array Value} (h : va_Z C n d v A s s.heap) (hv : v.isRef = true) : (Cond.isRef (.static C n d)).before args s = true := by
  obtain ⟨cf, kf, fi, f, a, cell, h1, h2, h3, h4, h5, h6, h7, -⟩ := h
  have he : (Term.static C n d).eval args s none [] s = some v := by
    simp [Term.eval, State.fieldNamed?, h1, h2, h4, h5, h6, h7]
  simp only [Cond.before, Cond.holds, Cond.value, he]
  cases v <;> simp_all [Value.isRef]
theorem vx_isRefq {C n d : String} {A : Nat → Prop} {s : State} {args : Array Value} (h : va_Zq C n d A s s.heap) : (Cond.isRef (.static C n d)).before args s = true := by
  rcases h with h | ⟨t, h⟩
  · exact vx_isRef h rfl
  · exact vx_isRef h rfl
/-- the same frame, seen from here: as if the method were called anew in this heap -/
theorem vx_rebase {T : State} (X : Stand p l e R s m args below meth c T locs cells slots) {R' : Room} (hf : R'.frames ≤ R.frames) (hl : R'.locals ≤ R.locals) (hc : cells + R'.cells ≤ R.cells) (hs : slots + R'.slots ≤ R.slots) :
    Stand p l e R' ((T.setVm s.vm).setFrames (.invoking m args :: below)) m args below meth c T [] 0 0 := by
  have htop : (T.setVm s.vm).topJava?.isSome := X.here.top
  have hF : ((T.setVm s.vm).setFrames (.invoking m args :: below)).frames = .invoking m args :: below := State.frames_setFrames _ (State.cur_lt_of_top htop)
  obtain ⟨g₀, hg0⟩ := Option.isSome_iff_exists.mp htop
  obtain ⟨r, hr⟩ := State.topJava?_eq_some.mp hg0
  have hl9 : e.platform.stackLimits (T.setVm s.vm).me = e.platform.stackLimits s.me := X.limits
  have hb9 : (T.setVm s.vm).me.stackBytes = s.me.stackBytes := X.bytes
  refine ⟨X.admits, X.cas, X.clock, hF, ?_, X.hears, X.method, X.code, X.here, X.tail, X.warmed, ?_, ?_, ?_⟩
  · have h := X.room
    have hU : ((T.setVm s.vm).setFrames (.invoking m args :: below)).localsInUse = s.localsInUse := by
      rw [State.localsInUse_invoking hF (meth := meth) (c := c) X.method X.code, State.localsInUse_invoking X.frames X.method X.code]
    simp only [State.hasRoom, Bool.and_eq_true, decide_eq_true_eq] at h ⊢
    obtain ⟨⟨⟨⟨h1, h2, h3, h4, h5, h6⟩, h7⟩, h8⟩, h9⟩ := h
    rw [X.frames, List.length_cons] at h2 h3
    have q1 := X.heapSize
    have q2 := X.used
    simp only [hF, hU, List.length_cons, State.stackLimits_setFrames, State.stackBytes_setFrames, hl9, hb9]
    refine ⟨⟨⟨⟨by omega, by omega, by omega, by omega, by omega, h6⟩, ?_⟩, ?_⟩, X.book⟩
    · show T.heap.size + R'.cells ≤ e.platform.maxCells
      omega
    · show T.slotsUsed + R'.slots ≤ e.platform.maxSlots
      omega
  · rw [State.stackLimits_setFrames]; rfl
  · rw [State.stackBytes_setFrames]; rfl
  · refine ⟨?_, Nat.le_refl _, Nat.le_refl _, ?_, ?_, fun a c9 h9 => ⟨c9, h9, rfl, rfl, fun _ _ => rfl⟩⟩
    · obtain ⟨t, ht, -⟩ := State.frames_cons hr
      show T.setVm s.vm = { ((T.setVm s.vm).setFrames (.invoking m args :: below)).setFrames (T.setVm s.vm).frames with heap := T.heap, slotsUsed := T.slotsUsed }
      rw [State.setFrames_setFrames, State.setFrames_self ht]
      rfl
    · show T.slotsUsed = T.slotsUsed + ((T.heap.toList.drop T.heap.size).map (·.slots.size)).sum
      rw [List.drop_eq_nil_of_le (Nat.le_of_eq Array.length_toList)]
      rfl
    · show ((T.heap.toList.drop T.heap.size).map (·.slots.size)).sum ≤ 0
      rw [List.drop_eq_nil_of_le (Nat.le_of_eq Array.length_toList)]
      exact Nat.le_refl _
/-- 'throw new E()': new; dup; invokespecial; athrow -/
theorem vx_throw0 {cc : ByteArray} {pc : Nat} (hexec : p.tables.exec = Jvm.exec) (hb : c.code = cc) (hl : l.stackTraces = false) {own cls : String} {names : List String} {ik ic mc ms : Nat} {A : Nat → Prop}
    (hown : s.vm.findClass own = some m.cls) (hcls : Bundle.fit cls = true) (hnames : ∀ n ∈ names, Bundle.fit n = true)
    (hk : (Cond.classLink own ik cls).before args s = true) (hini : (Cond.initialized cls).before args s = true) (hat : ∀ w ∈ vx_at0 own ic cls names, w.before args s = true)
    (hgood : ∀ w ∈ Cond.classLink own ik cls :: Cond.initialized cls :: vx_at0 own ic cls names, vx_ot w = true)
    (hU : vx_Zq Bundle.tN "UNASSIGNED_STACK" Bundle.steD A s s.heap) (hN : vx_Zq Bundle.tN "SUPPRESSED_SENTINEL" Bundle.listD A s s.heap) (hS : va_S A s.heap H locs) (hsize : ls.size = c.maxLocals)
    (d0 : decode cc pc = .ok (.new ik, 3)) (d3 : decode cc (pc + 3) = .ok (.dup, 1)) (d4 : decode cc (pc + 4) = .ok (.invokespecial ic, 3)) (d7 : decode cc (pc + 7) = .ok (.athrow, 1))
    (hout : ∀ x ∈ c.exceptionTable.toList, covers x (pc + 7) = false)
    (hRframes : names.length + 3 < R.frames) (hRlocals : (rest.map fun v => v.category).sum + (13 * (names.length + 1) + 42) ≤ R.locals) (hRcells : cells + 1 ≤ R.cells) (hRslots : slots + 6 ≤ R.slots) (hlocks : meth.locks = false)
    (hx : ∀ t : State, s.vm.Alike t.vm → H.size ≤ t.heap.size → (∀ q : Nat, q < H.size → t.heap[q]? = H[q]?) → XC cls s t)
    (hf : ∀ z ∈ locs, free z.base) (hc : cells + 1 ≤ mc) (hs : slots + 6 ≤ ms) :
    W p l e R s m args below meth c H locs cells slots (vx_MQ below Qc XC args s mc ms free) (F0 m pc ls rest) := by
  intro T hT X
  have htr : e.platform.stackTraces = false := (show e.platform.stackTraces = l.stackTraces by rw [X.admits.platform]).trans hl
  have Y := vx_rebase X (R' := { frames := R.frames, locals := R.locals, cells := 1, slots := 6 }) (Nat.le_refl _) (Nat.le_refl _) hRcells hRslots
  obtain ⟨s', hA⟩ : ∃ z, z = (T.setVm s.vm).setFrames (.invoking m args :: below) := ⟨_, rfl⟩
  rw [← hA] at Y
  have hvm : s'.vm = s.vm := by rw [hA]; rfl
  have hhp : s'.heap = H := by rw [hA]; exact hT
  have hW0 : s.WarmedH s'.vm := by rw [hvm]; exact State.WarmedH.refl s
  have hat' : ∀ w ∈ vx_at0 own ic cls names, w.before args s' = true := fun w hw => vx_ot_at hW0 hvm.symm (hgood w (List.mem_cons_of_mem _ (List.mem_cons_of_mem _ hw))) (hat w hw)
  have hk' : (Cond.classLink own ik cls).before args s' = true := vx_ot_at hW0 hvm.symm (hgood _ List.mem_cons_self) hk
  have hini' : (Cond.initialized cls).before args s' = true := vx_ot_at hW0 hvm.symm (hgood _ (List.mem_cons_of_mem _ List.mem_cons_self)) hini
  have hU' : vx_Zq Bundle.tN "UNASSIGNED_STACK" Bundle.steD A s' s'.heap := by rw [hhp]; exact vx_Zq.moved hW0.alike (hU.kept hS.2.1)
  have hN' : vx_Zq Bundle.tN "SUPPRESSED_SENTINEL" Bundle.listD A s' s'.heap := by rw [hhp]; exact vx_Zq.moved hW0.alike (hN.kept hS.2.1)
  have h : ∀ w ∈ Bundle.ownAtoms0 own ic cls names, w.before args s' = true := vx_own hat' (vx_isRefq hU'.1) (vx_isRefq hN'.1) hU'.2.word hN'.2.word
  have hown' : s'.vm.findClass own = some m.cls := by rw [hvm]; exact hown
  have hins : (Cond.instantiable cls 6).before args s' = true := h _ (by simp [Bundle.ownAtoms0])
  obtain ⟨vm₁, cX, kX, hfX, hkX, -, -, X₁, st1⟩ := Y.newCold hexec (own := own) (C := cls) (index := ik) (n := 6) hown' hk' hins hini'
    (g := F0 m pc ls rest) rfl (by rw [hb]; exact d0) (Nat.le_refl _) (Nat.le_refl _)
  generalize hT1 : (T.setVm vm₁).pushCell { cls := cX, slots := kX.instanceTypes.map defaultValue, vm := .none } = T1 at X₁ st1
  have hcat : (Value.ref T.heap.size).category = 1 := rfl
  have hcellA : T1.heap[T.heap.size]? = some (freshCell cX kX) := by rw [← hT1]; exact State.heap_pushCell_size _ _
  have d3' : decode c.code (pc + 3) = .ok (.dup, 1) := by rw [hb]; exact d3
  obtain ⟨U, hsteps, hrun, hend, hW, hsame, ce, hce, hO⟩ := X₁.ctorThrow0 hexec htr (own := own) (cls := cls) (names := names) (ic := ic) hown' hcls hnames h (fun x hx => nomatch hx) hfX hkX hcellA (by rw [hhp, hT]; exact Nat.le_refl _)
    (g := { method := m, pc := pc + 4, locals := ls, stack := .ref T.heap.size :: .ref T.heap.size :: rest, locked := none }) rfl hsize rfl rfl (rest := rest) rfl
    (by rw [hb]; exact d4) (by rw [hb]; exact d7) hout hRframes (by simp only [List.map_cons, List.sum_cons, hcat]; omega) hlocks
  obtain ⟨f1, f2⟩ := vx_frame hsame
  rw [hhp] at f1 f2
  have hWs : s.WarmedH U.vm := State.WarmedH.trans hW0 hW
  have hcl : s.vm.findClass cls = some ce.cls := by
    have h9 := hO.cls
    rw [hvm] at h9
    exact h9
  have hall : s.sameButNew ({ U with vm := s.vm } : State) locs mc ms := by
    subst hA
    obtain ⟨e1, e2⟩ := hsame
    rw [State.setFrames_setFrames] at e1
    have h2 : (T.setVm s.vm).sameButNew ({ U with vm := s.vm } : State) [] (0 + 1) (0 + 6) := ⟨e1, e2⟩
    have h3 := X.same.trans h2
    rw [List.append_nil] at h3
    exact h3.mono hc hs
  refine ⟨U, ?_, .threw T.heap.size, hrun, hend, Or.inr ⟨T.heap.size, rfl, cls, ce, locs, hx U hWs.alike f1 (fun q hq => f2 q hq (fun z hz => nomatch hz)), hce, hO.vm, hcl, hWs, hall, hf⟩⟩
  refine st1 _ ?_
  show Steps p.tables e below (T1.setTop { method := m, pc := pc + 3, locals := ls, stack := .ref T.heap.size :: rest, locked := none }) _
  jvm_step X₁.here [X₁.here.top, hexec, d3', Value.category]
  exact hsteps
/-- 'throw new E("text")': new; dup; ldc; invokespecial; athrow -/
theorem vx_throwS {cc : ByteArray} {pc : Nat} (hexec : p.tables.exec = Jvm.exec) (hb : c.code = cc) (hl : l.stackTraces = false) {own cls text : String} {names : List String} {ik is ic mc ms sa : Nat} {A : Nat → Prop}
    (hown : s.vm.findClass own = some m.cls) (hcls : Bundle.fit cls = true) (hnames : ∀ n ∈ names, Bundle.fit n = true)
    (hk : (Cond.classLink own ik cls).before args s = true) (hini : (Cond.initialized cls).before args s = true) (hstr : vk_R own is text sa s) (hat : ∀ w ∈ vx_atS own ic cls names, w.before args s = true)
    (hgood : ∀ w ∈ Cond.classLink own ik cls :: Cond.initialized cls :: vx_atS own ic cls names, vx_ot w = true)
    (hU : vx_Zq Bundle.tN "UNASSIGNED_STACK" Bundle.steD A s s.heap) (hN : vx_Zq Bundle.tN "SUPPRESSED_SENTINEL" Bundle.listD A s s.heap) (hS : va_S A s.heap H locs) (hsize : ls.size = c.maxLocals)
    (d0 : decode cc pc = .ok (.new ik, 3)) (d3 : decode cc (pc + 3) = .ok (.dup, 1)) (d4 : decode cc (pc + 4) = .ok (.ldc is, 2)) (d6 : decode cc (pc + 6) = .ok (.invokespecial ic, 3)) (d9 : decode cc (pc + 9) = .ok (.athrow, 1))
    (hout : ∀ x ∈ c.exceptionTable.toList, covers x (pc + 9) = false)
    (hRframes : names.length + 3 < R.frames) (hRlocals : (rest.map fun v => v.category).sum + (13 * (names.length + 1) + 43) ≤ R.locals) (hRcells : cells + 1 ≤ R.cells) (hRslots : slots + 6 ≤ R.slots) (hlocks : meth.locks = false)
    (hx : ∀ t : State, s.vm.Alike t.vm → H.size ≤ t.heap.size → (∀ q : Nat, q < H.size → t.heap[q]? = H[q]?) → XC cls s t)
    (hf : ∀ z ∈ locs, free z.base) (hc : cells + 1 ≤ mc) (hs : slots + 6 ≤ ms) :
    W p l e R s m args below meth c H locs cells slots (vx_MQ below Qc XC args s mc ms free) (F0 m pc ls rest) := by
  intro T hT X
  have htr : e.platform.stackTraces = false := (show e.platform.stackTraces = l.stackTraces by rw [X.admits.platform]).trans hl
  have Y := vx_rebase X (R' := { frames := R.frames, locals := R.locals, cells := 1, slots := 6 }) (Nat.le_refl _) (Nat.le_refl _) hRcells hRslots
  obtain ⟨s', hA⟩ : ∃ z, z = (T.setVm s.vm).setFrames (.invoking m args :: below) := ⟨_, rfl⟩
  rw [← hA] at Y
  have hvm : s'.vm = s.vm := by rw [hA]; rfl
  have hhp : s'.heap = H := by rw [hA]; exact hT
  have hW0 : s.WarmedH s'.vm := by rw [hvm]; exact State.WarmedH.refl s
  have hat' : ∀ w ∈ vx_atS own ic cls names, w.before args s' = true := fun w hw => vx_ot_at hW0 hvm.symm (hgood w (List.mem_cons_of_mem _ (List.mem_cons_of_mem _ hw))) (hat w hw)
  have hk' : (Cond.classLink own ik cls).before args s' = true := vx_ot_at hW0 hvm.symm (hgood _ List.mem_cons_self) hk
  have hini' : (Cond.initialized cls).before args s' = true := vx_ot_at hW0 hvm.symm (hgood _ (List.mem_cons_of_mem _ List.mem_cons_self)) hini
  have hU' : vx_Zq Bundle.tN "UNASSIGNED_STACK" Bundle.steD A s' s'.heap := by rw [hhp]; exact vx_Zq.moved hW0.alike (hU.kept hS.2.1)
  have hN' : vx_Zq Bundle.tN "SUPPRESSED_SENTINEL" Bundle.listD A s' s'.heap := by rw [hhp]; exact vx_Zq.moved hW0.alike (hN.kept hS.2.1)
  have h : ∀ w ∈ Bundle.ownAtoms own ic cls names, w.before args s' = true := vx_own hat' (vx_isRefq hU'.1) (vx_isRefq hN'.1) hU'.2.word hN'.2.word
  have hown' : s'.vm.findClass own = some m.cls := by rw [hvm]; exact hown
  have hins : (Cond.instantiable cls 6).before args s' = true := h _ (by simp [Bundle.ownAtoms])
  obtain ⟨vm₁, cX, kX, hfX, hkX, -, -, X₁, st1⟩ := Y.newCold hexec (own := own) (C := cls) (index := ik) (n := 6) hown' hk' hins hini'
    (g := F0 m pc ls rest) rfl (by rw [hb]; exact d0) (Nat.le_refl _) (Nat.le_refl _)
  generalize hT1 : (T.setVm vm₁).pushCell { cls := cX, slots := kX.instanceTypes.map defaultValue, vm := .none } = T1 at X₁ st1
  have hcat : (Value.ref T.heap.size).category = 1 := rfl
  have hcellA : T1.heap[T.heap.size]? = some (freshCell cX kX) := by rw [← hT1]; exact State.heap_pushCell_size _ _
  have d3' : decode c.code (pc + 3) = .ok (.dup, 1) := by rw [hb]; exact d3
  have d4' : decode c.code (pc + 4) = .ok (.ldc is, 2) := by rw [hb]; exact d4
  have hstr' : vk_R own is text sa s' := vk_R.warm hW0 hstr
  obtain ⟨U, hsteps, hrun, hend, hW, hsame, ce, hce, hO⟩ := X₁.ctorThrowS hexec htr (own := own) (cls := cls) (names := names) (ic := ic) hown' hcls hnames h (fun x hx => nomatch hx) hfX hkX hcellA (by rw [hhp, hT]; exact Nat.le_refl _) (msg := .ref sa) rfl
    (g := { method := m, pc := pc + 6, locals := ls, stack := .ref sa :: .ref T.heap.size :: .ref T.heap.size :: rest, locked := none }) rfl hsize rfl rfl (rest := rest) rfl
    (by rw [hb]; exact d6) (by rw [hb]; exact d9) hout hRframes (by simp only [List.map_cons, List.sum_cons, hcat]; omega) hlocks
  obtain ⟨f1, f2⟩ := vx_frame hsame
  rw [hhp] at f1 f2
  have hWs : s.WarmedH U.vm := State.WarmedH.trans hW0 hW
  have hcl : s.vm.findClass cls = some ce.cls := by
    have h9 := hO.cls
    rw [hvm] at h9
    exact h9
  have hall : s.sameButNew ({ U with vm := s.vm } : State) locs mc ms := by
    subst hA
    obtain ⟨e1, e2⟩ := hsame
    rw [State.setFrames_setFrames] at e1
    have h2 : (T.setVm s.vm).sameButNew ({ U with vm := s.vm } : State) [] (0 + 1) (0 + 6) := ⟨e1, e2⟩
    have h3 := X.same.trans h2
    rw [List.append_nil] at h3
    exact h3.mono hc hs
  refine ⟨U, ?_, .threw T.heap.size, hrun, hend, Or.inr ⟨T.heap.size, rfl, cls, ce, locs, hx U hWs.alike f1 (fun q hq => f2 q hq (fun z hz => nomatch hz)), hce, hO.vm, hcl, hWs, hall, hf⟩⟩
  refine st1 _ ?_
  show Steps p.tables e below (T1.setTop { method := m, pc := pc + 3, locals := ls, stack := .ref T.heap.size :: rest, locked := none }) _
  jvm_step X₁.here [X₁.here.top, hexec, d3', Value.category]
  exact X₁.ldcString hexec (own := own) (text := text) (index := is) (a := sa) hown' hstr'.1 hstr'.2
    (g := { method := m, pc := pc + 4, locals := ls, stack := .ref T.heap.size :: .ref T.heap.size :: rest, locked := none }) rfl d4' _ hsteps
/-- 'throw new E("text")', the text by a wide index -/
theorem vx_throwSW {cc : ByteArray} {pc : Nat} (hexec : p.tables.exec = Jvm.exec) (hb : c.code = cc) (hl : l.stackTraces = false) {own cls text : String} {names : List String} {ik is ic mc ms sa : Nat} {A : Nat → Prop}
    (hown : s.vm.findClass own = some m.cls) (hcls : Bundle.fit cls = true) (hnames : ∀ n ∈ names, Bundle.fit n = true)
    (hk : (Cond.classLink own ik cls).before args s = true) (hini : (Cond.initialized cls).before args s = true) (hstr : vk_R own is text sa s) (hat : ∀ w ∈ vx_atS own ic cls names, w.before args s = true)
    (hgood : ∀ w ∈ Cond.classLink own ik cls :: Cond.initialized cls :: vx_atS own ic cls names, vx_ot w = true)
    (hU : vx_Zq Bundle.tN "UNASSIGNED_STACK" Bundle.steD A s s.heap) (hN : vx_Zq Bundle.tN "SUPPRESSED_SENTINEL" Bundle.listD A s s.heap) (hS : va_S A s.heap H locs) (hsize : ls.size = c.maxLocals)
    (d0 : decode cc pc = .ok (.new ik, 3)) (d3 : decode cc (pc + 3) = .ok (.dup, 1)) (d4 : decode cc (pc + 4) = .ok (.ldc_w is, 3)) (d7 : decode cc (pc + 7) = .ok (.invokespecial ic, 3)) (d10 : decode cc (pc + 10) = .ok (.athrow, 1))
    (hout : ∀ x ∈ c.exceptionTable.toList, covers x (pc + 10) = false)
    (hRframes : names.length + 3 < R.frames) (hRlocals : (rest.map fun v => v.category).sum + (13 * (names.length + 1) + 43) ≤ R.locals) (hRcells : cells + 1 ≤ R.cells) (hRslots : slots + 6 ≤ R.slots) (hlocks : meth.locks = false)
    (hx : ∀ t : State, s.vm.Alike t.vm → H.size ≤ t.heap.size → (∀ q : Nat, q < H.size → t.heap[q]? = H[q]?) → XC cls s t)
    (hf : ∀ z ∈ locs, free z.base) (hc : cells + 1 ≤ mc) (hs : slots + 6 ≤ ms) :
    W p l e R s m args below meth c H locs cells slots (vx_MQ below Qc XC args s mc ms free) (F0 m pc ls rest) := by
  intro T hT X
  have htr : e.platform.stackTraces = false := (show e.platform.stackTraces = l.stackTraces by rw [X.admits.platform]).trans hl
  have Y := vx_rebase X (R' := { frames := R.frames, locals := R.locals, cells := 1, slots := 6 }) (Nat.le_refl _) (Nat.le_refl _) hRcells hRslots
  obtain ⟨s', hA⟩ : ∃ z, z = (T.setVm s.vm).setFrames (.invoking m args :: below) := ⟨_, rfl⟩
  rw [← hA] at Y
  have hvm : s'.vm = s.vm := by rw [hA]; rfl
  have hhp : s'.heap = H := by rw [hA]; exact hT
  have hW0 : s.WarmedH s'.vm := by rw [hvm]; exact State.WarmedH.refl s
  have hat' : ∀ w ∈ vx_atS own ic cls names, w.before args s' = true := fun w hw => vx_ot_at hW0 hvm.symm (hgood w (List.mem_cons_of_mem _ (List.mem_cons_of_mem _ hw))) (hat w hw)
  have hk' : (Cond.classLink own ik cls).before args s' = true := vx_ot_at hW0 hvm.symm (hgood _ List.mem_cons_self) hk
  have hini' : (Cond.initialized cls).before args s' = true := vx_ot_at hW0 hvm.symm (hgood _ (List.mem_cons_of_mem _ List.mem_cons_self)) hini
  have hU' : vx_Zq Bundle.tN "UNASSIGNED_STACK" Bundle.steD A s' s'.heap := by rw [hhp]; exact vx_Zq.moved hW0.alike (hU.kept hS.2.1)
  have hN' : vx_Zq Bundle.tN "SUPPRESSED_SENTINEL" Bundle.listD A s' s'.heap := by rw [hhp]; exact vx_Zq.moved hW0.alike (hN.kept hS.2.1)
  have h : ∀ w ∈ Bundle.ownAtoms own ic cls names, w.before args s' = true := vx_own hat' (vx_isRefq hU'.1) (vx_isRefq hN'.1) hU'.2.word hN'.2.word
  have hown' : s'.vm.findClass own = some m.cls := by rw [hvm]; exact hown
  have hins : (Cond.instantiable cls 6).before args s' = true := h _ (by simp [Bundle.ownAtoms])
  obtain ⟨vm₁, cX, kX, hfX, hkX, -, -, X₁, st1⟩ := Y.newCold hexec (own := own) (C := cls) (index := ik) (n := 6) hown' hk' hins hini'
    (g := F0 m pc ls rest) rfl (by rw [hb]; exact d0) (Nat.le_refl _) (Nat.le_refl _)
  generalize hT1 : (T.setVm vm₁).pushCell { cls := cX, slots := kX.instanceTypes.map defaultValue, vm := .none } = T1 at X₁ st1
  have hcat : (Value.ref T.heap.size).category = 1 := rfl
  have hcellA : T1.heap[T.heap.size]? = some (freshCell cX kX) := by rw [← hT1]; exact State.heap_pushCell_size _ _
  have d3' : decode c.code (pc + 3) = .ok (.dup, 1) := by rw [hb]; exact d3
  have d4' : decode c.code (pc + 4) = .ok (.ldc_w is, 3) := by rw [hb]; exact d4
  have hstr' : vk_R own is text sa s' := vk_R.warm hW0 hstr
  obtain ⟨U, hsteps, hrun, hend, hW, hsame, ce, hce, hO⟩ := X₁.ctorThrowS hexec htr (own := own) (cls := cls) (names := names) (ic := ic) hown' hcls hnames h (fun x hx => nomatch hx) hfX hkX hcellA (by rw [hhp, hT]; exact Nat.le_refl _) (msg := .ref sa) rfl
    (g := { method := m, pc := pc + 7, locals := ls, stack := .ref sa :: .ref T.heap.size :: .ref T.heap.size :: rest, locked := none }) rfl hsize rfl rfl (rest := rest) rfl
    (by rw [hb]; exact d7) (by rw [hb]; exact d10) hout hRframes (by simp only [List.map_cons, List.sum_cons, hcat]; omega) hlocks
  obtain ⟨f1, f2⟩ := vx_frame hsame
  rw [hhp] at f1 f2
  have hWs : s.WarmedH U.vm := State.WarmedH.trans hW0 hW
  have hcl : s.vm.findClass cls = some ce.cls := by
    have h9 := hO.cls
    rw [hvm] at h9
    exact h9
  have hall : s.sameButNew ({ U with vm := s.vm } : State) locs mc ms := by
    subst hA
    obtain ⟨e1, e2⟩ := hsame
    rw [State.setFrames_setFrames] at e1
    have h2 : (T.setVm s.vm).sameButNew ({ U with vm := s.vm } : State) [] (0 + 1) (0 + 6) := ⟨e1, e2⟩
    have h3 := X.same.trans h2
    rw [List.append_nil] at h3
    exact h3.mono hc hs
  refine ⟨U, ?_, .threw T.heap.size, hrun, hend, Or.inr ⟨T.heap.size, rfl, cls, ce, locs, hx U hWs.alike f1 (fun q hq => f2 q hq (fun z hz => nomatch hz)), hce, hO.vm, hcl, hWs, hall, hf⟩⟩
  refine st1 _ ?_
  show Steps p.tables e below (T1.setTop { method := m, pc := pc + 3, locals := ls, stack := .ref T.heap.size :: rest, locked := none }) _
  jvm_step X₁.here [X₁.here.top, hexec, d3', Value.category]
  exact X₁.ldcStringW hexec (own := own) (text := text) (index := is) (a := sa) hown' hstr'.1 hstr'.2
    (g := { method := m, pc := pc + 4, locals := ls, stack := .ref T.heap.size :: .ref T.heap.size :: rest, locked := none }) rfl d4' _ hsteps
end Ends
section Bodies
variable {l : Launch}
theorem vx_ofW {y : MethodName} {ws ws' : List Cond} {rm : Room} {Pc : Array Value → State → Prop} {Qc : Array Value → State → Outcome → State → Prop} {XC : String → State → State → Prop} {mc ms : Nat} {free : Addr → Prop} {cc : ByteArray} {maxL : Nat} {ret : Option FieldType}
    (hy : plainName y.cls = true) (hw : ws = Cond.code y cc maxL ret :: ws')
    (body : ∀ p e s m args below meth c s₁, BodyLoose p l y (headSpec ws rm) cc maxL ret e s m args below meth c s₁ → c.maxLocals = maxL → (∀ x ∈ c.exceptionTable.toList, False) → Pc args s →
      W p l e (headSpec ws rm).room s m args below meth c s.heap [] 0 0 (vx_MQ below Qc XC args s mc ms free) (entryFrame m args maxL)) : vx_Met l y ws rm Pc Qc XC mc ms free := by
  refine MetFree.of_bodyS (code := cc) (maxLocals := maxL) (ret := ret) hy ?_ ?_
  · intro args s m h hn
    obtain ⟨meth, c, h1, h2, h3, h4, h5, h6, -, -⟩ := Cond.code_spec hn (atoms_spec (ws := ws) h _ (by rw [hw]; exact List.mem_cons_self))
    exact ⟨meth, c, h1, h2, h3, h4, h5, h6⟩
  · intro p e s m args below meth c s₁ B hml hP _
    have hh0 : s₁.heap = s.heap := by rw [B.state]; rfl
    have ht : ∀ x ∈ c.exceptionTable.toList, False := by
      obtain ⟨meth9, c9, h1, h2, -, -, -, -, h7, -⟩ := Cond.code_spec B.named (atoms_spec (ws := ws) B.pre _ (by rw [hw]; exact List.mem_cons_self))
      cases Option.some.inj (h1.symm.trans B.method)
      cases Option.some.inj (h2.symm.trans (Stand.of_body B).code)
      intro x hx
      rw [Array.isEmpty_iff.mp h7] at hx
      cases hx
    obtain ⟨t, a1, o, b1, b2, b3⟩ := body p e s m args below meth c s₁ B hml ht hP s₁ hh0 (Stand.of_body B)
    exact ⟨t, o, a1, b1, b2, b3⟩
/-- the table of a body with handlers -/
theorem vx_table {p : Program} {x y : MethodName} {S : Spec} {cc bytes : ByteArray} {maxL maxL' : Nat} {ret ret' : Option FieldType} {e : Env} {s s₁ : State} {m : MethodId} {args : Array Value} {below : List Frame} {meth : Method} {c : Code} {hh : List (Nat × Nat × Nat × Nat)}
    (B : BodyLoose p l y S cc maxL ret e s m args below meth c s₁) (h : (Cond.codeWith y bytes maxL' ret' hh).before args s = true) : c.exceptionTable.toList = tableOf hh := by
  obtain ⟨m9, meth9, c9, hn9, h1, h2, -, -, h6, -⟩ := Cond.codeWith_spec h
  cases Option.some.inj (hn9.symm.trans B.named)
  cases Option.some.inj (h1.symm.trans B.method)
  cases Option.some.inj (h2.symm.trans (Stand.of_body B).code)
  rw [← h6, table_eq]
end Bodies
end VXA
/-! ===== END ===== -/
/-! ===== BEGIN a static call of a method with an exception table ===== -/
section VXS
variable {p : Program} {l : Launch} {e : Env} {R : Room} {s : State} {m : MethodId} {args : Array Value} {below : List Frame} {meth : Method} {c : Code} {T : State} {H : Heap} {locs : List Loc} {cells slots : Nat}
abbrev vx_CSW (R : Room) (s : State) (args : Array Value) (own : String) (index : Nat) (y : MethodName) (bytes : ByteArray) (maxL : Nat) (ret : Option FieldType) (hh : List (Nat × Nat × Nat × Nat)) (ws : List Cond) (rm : Room) (mc ms n : Nat) : Prop :=
  (rm.cells = mc ∧ rm.slots = ms ∧ rm.frames + 1 ≤ R.frames ∧ 8 + (maxL + 11) + rm.locals ≤ R.locals ∧ (∀ w ∈ ws, ∀ (a' : Array Value) (U : State), s.WarmedH U.vm → w.before a' U = true) ∧ Cond.codeWith y bytes maxL ret hh ∈ ws) ∧
  (Cond.codeWith y bytes maxL ret hh).before args s = true ∧ (Cond.initialized y.cls).before args s = true ∧ (y.cls ≠ "java/lang/invoke/MethodHandle" ∧ y.cls ≠ "java/lang/invoke/VarHandle") ∧
  (∀ sig, parseMethodDescriptor y.desc = some sig → n = sig.parameters.length) ∧ (Cond.methodLink own index y).before args s = true ∧ (Cond.static y).before args s = true
theorem vx_cwSW {own : String} {index maxL mc ms : Nat} {y : MethodName} {bytes : ByteArray} {ret : Option FieldType} {hh : List (Nat × Nat × Nat × Nat)} {Ts ws ws' : List Cond} {rm : Room} (n : Nat) (ht : ∀ w ∈ Ts, w.before args s = true) (hT : GoodIn Ts (va_wsS own index y ws)) (hw : ws = Cond.codeWith y bytes maxL ret hh :: ws') (hrc : rm.cells = mc) (hrs : rm.slots = ms)
    (hd : y.cls ≠ "java/lang/invoke/MethodHandle" ∧ y.cls ≠ "java/lang/invoke/VarHandle" ∧ (parseMethodDescriptor y.desc).map (fun d => d.parameters.length) = some n) (hR : rm.frames + 1 ≤ R.frames ∧ 8 + (maxL + 11) + rm.locals ≤ R.locals) :
    vx_CSW R s args own index y bytes maxL ret hh ws rm mc ms n := by
  have ok : ∀ w ∈ va_wsS own index y ws, w.before args s = true := fun w h => ht w (hT w h).1
  have hG : GoodIn Ts ws := fun w h => hT w (by unfold va_wsS; exact List.mem_append_right _ h)
  have hc : Cond.codeWith y bytes maxL ret hh ∈ ws := by rw [hw]; exact List.mem_cons_self
  refine ⟨⟨hrc, hrs, hR.1, hR.2, pay_in ht hG, hc⟩, ht _ (hG _ hc).1, ok _ (by simp [va_wsS]), ⟨hd.1, hd.2.1⟩, fun sig h => ?_, ok _ (by simp [va_wsS]), ok _ (by simp [va_wsS])⟩
  have h2 := hd.2.2
  rw [h] at h2
  exact (Option.some.inj h2).symm
theorem vx_callSW (X : Stand p l e R s m args below meth c T locs cells slots) (hexec : p.tables.exec = Jvm.exec) {own : String} {index : Nat} {y : MethodName} {bytes : ByteArray} {maxL : Nat} {ret : Option FieldType} {hh : List (Nat × Nat × Nat × Nat)}
    (hown : s.vm.findClass own = some m.cls) (hlink : (Cond.methodLink own index y).before args s = true) (hstat : (Cond.static y).before args s = true) (hinit : (Cond.initialized y.cls).before args s = true)
    (hcode : (Cond.codeWith y bytes maxL ret hh).before args s = true) (hy : y.cls ≠ "java/lang/invoke/MethodHandle" ∧ y.cls ≠ "java/lang/invoke/VarHandle")
    {W9 : Nat} {Pre : Pt → Array Value → Prop} {Post : Pt → Array Value → Option Value → Pt → Prop} (hK : Back l R p e below s args y 3 W9 Pre Post)
    {g : JFrame} (hg : g.method = m) (hsize : g.locals.size = c.maxLocals) {argsL rest : List Value} (hlen : ∀ sig, parseMethodDescriptor y.desc = some sig → argsL.length = sig.parameters.length)
    (hstack : g.stack = argsL.reverse ++ rest) (hW : 2 * g.monitorRoom + (rest.map fun v => v.category).sum ≤ W9) (hdg : decode c.code g.pc = .ok (.invokestatic index, 3))
    (hpre : ∀ vm₁, s.WarmedH vm₁ → Pre ⟨T.setVm vm₁, locs, cells, slots⟩ argsL.toArray) :
    ∃ (v : Option Value) (vm₁ : Vm) (B : Pt), s.WarmedH vm₁ ∧ Stand p l e R s m args below meth c B.U B.locs B.cells B.slots ∧ Post ⟨T.setVm vm₁, locs, cells, slots⟩ argsL.toArray v B ∧
      ∀ target, Steps p.tables e below (B.U.setTop { g with pc := g.pc + 3, stack := v.toList ++ rest }) target → Steps p.tables e below (T.setTop g) target := by
  obtain ⟨mk, methM, cM, hnamed, hmethM, -, -, -, -, -, -, hsigM⟩ := Cond.codeWith_spec hcode
  have hstatic : methM.isStatic = true := Cond.static_spec hnamed hmethM hstat
  obtain ⟨kP, hkP, -⟩ := className_of_methodNamed hnamed
  have hinitP : kP.init = .initialized := Cond.initialized_spec (findClass_of_methodNamed hnamed) hkP hinit
  obtain ⟨vm₁, X₁, hstep₁⟩ := X.invokestatic hexec hown hlink hnamed hmethM hstatic hkP hinitP hy (g := g) hg (argsL := argsL) (rest := rest) (hlen _ hsigM) hstack hdg
  obtain ⟨v, B, X', hpost, hsteps⟩ := hK m meth c ⟨T.setVm vm₁, locs, cells, slots⟩ { g with stack := rest } (.invokestatic index) mk argsL.toArray X₁ hg hsize hdg hW (X₁.named hnamed) (hpre vm₁ X₁.warmed)
  exact ⟨v, vm₁, B, X₁.warmed, X', hpost, fun target h => hstep₁ _ fun acts => by rw [doInvoke_state]; exact hsteps.trans h⟩
theorem vx_runSW {y : MethodName} {bytes cc : ByteArray} {maxL nL mc ms n index : Nat} {ret : Option FieldType} {hh : List (Nat × Nat × Nat × Nat)} {ws : List Cond} {rm : Room} {Pc : Array Value → State → Prop} {Qc : Array Value → State → Outcome → State → Prop} {free : Addr → Prop} {Ts : List Cond} {own : String} {As rest : List Value} {g : JFrame}
    (S : CallFix p m c cc nL s args Ts own) (hM : Met l y ws rm Pc Qc mc ms free) (cw : vx_CSW R s args own index y bytes maxL ret hh ws rm mc ms n) (hp : PreS s H Pc As)
    (hg : g.method = m) (hn : As.length = n) (hsize : g.locals.size = nL) (hstack : g.stack = As.reverse ++ rest) (hW : 2 * g.monitorRoom + (rest.map fun v => v.category).sum ≤ 8) (hdg : decode cc g.pc = .ok (.invokestatic index, 3)) (hf : cells + mc ≤ R.cells ∧ slots + ms ≤ R.slots) :
    va_Run p l e R s m args below meth c H locs cells slots mc ms g rest (Qc As.toArray) (free) := by
  obtain ⟨⟨hrc, hrs, hfr, hlo, hws, hcw⟩, hcode, hini, hy, hlen, hl, hstt⟩ := cw
  have hK : Back l R p e below s args y 3 8 (PreOf R mc ms Pc) (PostOf Qc mc ms free) := va_backW (hh := hh) (bytes := bytes) (maxL := maxL) (ret := ret) hM hp.1 hrc hrs hfr hlo hws hcw (fun a' U hW => word_at hW (Or.inl (by first | rfl | simp [Cond.onTables, Cond.keeps, Cond.steady])) hini)
  obtain ⟨hx, hb, hml, ho, -⟩ := S
  intro T hT X
  obtain ⟨v, vm₁, ⟨U', l2, c2, s2⟩, hW₁, X', ⟨g', mk, t, L, e1, e2, hq, h1, hL, h2, h3⟩, st⟩ := vx_callSW X hx (hh := hh) (bytes := bytes) (maxL := maxL) (ret := ret) ho hl hstt hini hcode hy hK hg (hsize.trans hml.symm) (argsL := As) (rest := rest) (fun sig h => hn.trans (hlen sig h)) hstack hW (by rw [hb]; exact hdg)
    (fun vm₁ hW₁ => ⟨hf.1, hf.2, hp.2 (T.setVm vm₁) hT hW₁⟩)
  dsimp only [Pt.U, Pt.locs, Pt.cells, Pt.slots] at X' e1 e2 h1 h2 h3 st
  subst h1; subst h2; subst h3
  exact ⟨v, (T.setVm vm₁).calling g' mk As.toArray, t, U', L, hT, X', hL, e1, e2, hq, st⟩
/-- not caught here, past rows that name other classes: it goes on to the caller -/
theorem vx_outP {p : Program} {l : Launch} {e : Env} {R : Room} {s : State} {m : MethodId} {args : Array Value} {below : List Frame} {meth : Method} {c : Code} {H : Heap} {locs : List Loc} {cells slots : Nat} {free : Addr → Prop} {ls : Array Slot} {rest : List Value} {Qc : Array Value → State → Outcome → State → Prop} {XC : String → State → State → Prop}
    {pc : Nat} {own E : String} {ce : Cell} {q : Addr} {mc ms : Nat} (hown : s.vm.findClass own = some m.cls) (hlocks : meth.locks = false)
    (hpass : ∀ z ∈ c.exceptionTable.toList, covers z pc = false ∨ (z.catchType ≠ 0 ∧ ∃ nm : String, (Cond.classLink own z.catchType nm).before args s = true ∧ va_Nc E nm s)) (hcell : H[q]? = some ce) (hv : ce.vm = .none) (hcl : s.vm.findClass E = some ce.cls)
    (hx : ∀ t : State, t.heap = H → s.vm.Alike t.vm → XC E s t) (hf : ∀ z ∈ locs, free z.base) (hc : cells ≤ mc) (hs : slots ≤ ms) :
    vx_W p l e R s m args below meth c H locs cells slots (vx_MQ below Qc XC args s mc ms free) (F0 m pc ls rest) q := by
  intro T hT X
  have hpl : e.platform.magicAccessors = ({} : Platform).magicAccessors := by rw [X.admits.platform]
  obtain ⟨vm', hW', X', st⟩ := X.outThrough hlocks q (g := F0 m pc ls rest) rfl rfl rfl (cell := ce) (by rw [hT]; exact hcell) (by rw [hv]; rfl)
    (by obtain ⟨k9, h9, -⟩ := Vm.findClass_spec hcl; exact ⟨k9, h9⟩) (fun z hz => by
      rcases hpass z hz with h | ⟨hz0, nm, hl1, hn1⟩
      · exact Or.inl h
      · obtain ⟨c6, hc6, hcl6⟩ := Cond.classLink_spec hown hl1 e.platform hpl
        obtain ⟨a8, b8, h1, h2, h3⟩ := hn1
        cases Option.some.inj (h1.symm.trans hcl)
        cases Option.some.inj (h2.symm.trans hc6)
        exact Or.inr ⟨hz0, _, hcl6, h3⟩)
  obtain ⟨g₀, hfr⟩ := X'.frames_eq
  have hcell9 : ((T.setVm vm').setFrames (.throwing q :: below)).heap[q]? = some ce := by
    show T.heap[q]? = some ce
    rw [hT]; exact hcell
  have hend : Ended ((T.setVm vm').setFrames (.throwing q :: below)) below (.threw q) := State.frames_setFrames _ (State.cur_lt_of_frames hfr)
  refine ⟨(T.setVm vm').setFrames (.throwing q :: below), ?_, .threw q, X'.here.running, hend, Or.inr ⟨q, rfl, E, ce, locs, hx _ hT (X'.ends _).1.alike, hcell9, hv, hcl, (X'.ends _).1, (X'.ends _).2.mono hc hs, hf⟩⟩
  rw [X.pushThrowing_eq]
  exact st
/-- a thing of a world lies in the heap -/
theorem vx_lt {D : va_G} {cl : List vw_C} {ws : va_W} {H1 : Heap} (h : va_P D cl ws H1) {k : Nat} {q : Nat × va_E} (hk : ws[k]? = some q) : q.1 < H1.size := (h k q hk).lt
end VXS
/-! ===== END ===== -/
/-! ===== BEGIN methods with a table of their own: called by a name, returning or throwing ===== -/
section VXH
/-! vx_backW, vx_callVX, vx_callSX, vx_callVW, vx_runVW, vx_runVX, vx_runSX, vx_ofWH follow the same proofs as their sisters above (Free/Laws.lean, Shelf42/LK1.lean); vx_outP calls Shelf42/NT130.lean (outThrough). -/
section
variable {l : Launch} {R : Room} {p : Program} {e : Env} {below : List Frame} {s : State} {sargs : Array Value} {y : MethodName} {len W9 : Nat}
theorem vx_backW {ws : List Cond} {rm : Room} {Pc : Array Value → State → Prop} {Qc : Array Value → State → Outcome → State → Prop} {XC : String → State → State → Prop} {mc ms : Nat} {free : Addr → Prop} {bytes : ByteArray} {maxL : Nat} {ret : Option FieldType} {hh : List (Nat × Nat × Nat × Nat)}
    (hM : vx_Met l y ws rm Pc Qc XC mc ms free) (hblind : FrameBlind Pc) (hrc : rm.cells = mc) (hrs : rm.slots = ms)
    (hframes : rm.frames + 1 ≤ R.frames) (hlocals : W9 + (maxL + 11) + rm.locals ≤ R.locals)
    (hws : ∀ w ∈ ws, ∀ a' U, s.WarmedH U.vm → w.before a' U = true) (hcode : Cond.codeWith y bytes maxL ret hh ∈ ws) (hinit : ∀ a' U, s.WarmedH U.vm → (Cond.initialized y.cls).before a' U = true) :
    vx_Back l R p e below s sargs y len W9 (PreOf R mc ms Pc) (PostOf Qc mc ms free) (vx_Post XC mc ms free) := by
  intro m meth c A g ig mk a X hg hsize hdg hW hn hp
  have h1 : (headSpec ws rm).pre.before a A.U = true := atoms_intro fun w hw => hws w hw _ _ X.warmed
  have h2 : (Cond.codeWith y bytes maxL ret hh).before a A.U = true := hws _ hcode _ _ X.warmed
  have h3 : (Cond.initialized y.cls).before a A.U = true := hinit _ _ X.warmed
  have h4 : A.cells + (headSpec ws rm).room.cells ≤ R.cells := by rw [show (headSpec ws rm).room.cells = mc from hrc]; exact hp.1
  have h5 : A.slots + (headSpec ws rm).room.slots ≤ R.slots := by rw [show (headSpec ws rm).room.slots = ms from hrs]; exact hp.2.1
  have hPc : Pc a (A.U.calling g mk a) := hblind _ _ _ _ hp.2.2
  obtain ⟨U, Ls, c0, s0⟩ := A
  dsimp only [Pt.U, Pt.locs, Pt.cells, Pt.slots] at h1 h2 h3 h4 h5 X hn hPc ⊢
  obtain ⟨m9, methY, cY, hn9, hmY, hcY, -, hlY, -⟩ := Cond.codeWith_spec h2
  cases Option.some.inj (hn9.symm.trans hn)
  obtain ⟨kY, hkY, -⟩ := className_of_methodNamed hn
  have hinitY : kY.init = .initialized := Cond.initialized_spec (findClass_of_methodNamed hn) hkY h3
  have h : At U g.method c below := by rw [hg]; exact X.here
  have hlocals9 : W9 + (maxL + 11) + (headSpec ws rm).room.locals ≤ R.locals := hlocals
  have happ : (headSpec ws rm).appliesLoose y e.platform (U.calling g mk a) = true :=
    Spec.appliesLoose_calling (g := g) h hdg hn hkY hinitY
      (X.room_calling (g := g) (R' := (headSpec ws rm).room) hsize hmY hcY hframes (by rw [hlY]; omega) h4 h5) h1
  obtain ⟨mid, hmid⟩ := h.above
  have hfr : (U.setTop g).frames = (.java g :: mid) ++ below := by rw [State.frames_setTop' g h.top, hmid]; rfl
  obtain ⟨o, s₂, hsteps, -, hend, hq⟩ := Steps.callFree hM p X.admits X.cas X.clock (acts := []) hfr happ hPc trivial
  have hq' : vx_Q Qc XC mc ms free a (U.calling g mk a) o s₂ := hq
  rw [State.frames_setTop' g h.top] at hend
  obtain ⟨g₀, hg0⟩ := Option.isSome_iff_exists.mp h.top
  obtain ⟨r, hr⟩ := State.topJava?_eq_some.mp hg0
  have hr' : (({ U with heap := s₂.heap, slotsUsed := s₂.slotsUsed } : State).setVm s₂.vm).frames = .java g₀ :: r := hr
  rcases hq' with ⟨hqc, L, hfe, hL⟩ | ⟨q, rfl, E, ce, L, hx, hce, hcv, hcl, hW₂, hsm, hL⟩
  · obtain ⟨⟨v, rfl⟩, hW₂, e2, q2, q3, q4, q5, q6⟩ := id hfe
    have e3 : s₂ = ({ (U.calling g mk a).setFrames s₂.frames with heap := s₂.heap, slotsUsed := s₂.slotsUsed } : State).setVm s₂.vm := by
      have : s₂ = ({ s₂ with vm := (U.calling g mk a).vm } : State).setVm s₂.vm := rfl
      rw [e2] at this
      exact this
    obtain ⟨c₂, i₂, len₂, hc₂, hd₂, hf₂⟩ := hend
    have hW' : U.WarmedH s₂.vm := hW₂
    have hcc : c₂ = c := by
      have h1 : s₂.code? g.method = U.code? g.method := by
        rw [State.code?_eq, State.code?_eq, hW'.alike.method?]
      exact Option.some.inj (hc₂.symm.trans (h1.trans h.code))
    subst hcc
    have hlen : len₂ = len := by rw [hdg] at hd₂; cases hd₂; rfl
    subst hlen
    have hs₂ : s₂ = (({ U with heap := s₂.heap, slotsUsed := s₂.slotsUsed } : State).setVm s₂.vm).setTop { g with pc := g.pc + len₂, stack := v.toList ++ g.stack } := by
      refine e3.trans ?_
      rw [hf₂, State.calling_eq h.top, State.setFrames_setFrames, State.setTop_of_frames _ hr', hr]
      rfl
    have hsame : U.sameButNew ({ U with heap := s₂.heap, slotsUsed := s₂.slotsUsed } : State) L mc ms := by
      refine ⟨?_, q2, q3, q4, q5, q6⟩
      obtain ⟨t, ht, -⟩ := State.frames_cons hr
      show ({ U with heap := s₂.heap, slotsUsed := s₂.slotsUsed } : State) = { U.setFrames U.frames with heap := s₂.heap, slotsUsed := s₂.slotsUsed }
      rw [State.setFrames_self ht]
    subst hg
    refine Or.inl ⟨v, ⟨(({ U with heap := s₂.heap, slotsUsed := s₂.slotsUsed } : State).setVm s₂.vm), Ls ++ L, c0 + mc, s0 + ms⟩,
      ⟨X.admits, X.cas, X.clock, X.frames, X.room, X.hears, X.method, X.code, (X.here.setHeapUsed s₂.heap s₂.slotsUsed).setVm hW'.alike, X.tail, State.WarmedH.trans X.warmed hW', X.limits, X.bytes, X.same.trans (hsame.setVm s.vm)⟩,
      ⟨g, mk, s₂, L, rfl, rfl, hqc, rfl, hL, rfl, rfl⟩, ?_⟩
    show Steps p.tables e below _ ((({ U with heap := s₂.heap, slotsUsed := s₂.slotsUsed } : State).setVm s₂.vm).setTop { g with pc := g.pc + len₂, stack := v.toList ++ g.stack })
    rw [← hs₂]
    exact hsteps
  · obtain ⟨e2, q2, q3, q4, q5, q6⟩ := id hsm
    have e3 : s₂ = ({ (U.calling g mk a).setFrames s₂.frames with heap := s₂.heap, slotsUsed := s₂.slotsUsed } : State).setVm s₂.vm := by
      have : s₂ = ({ s₂ with vm := (U.calling g mk a).vm } : State).setVm s₂.vm := rfl
      rw [e2] at this
      exact this
    have hf₂ : s₂.frames = .throwing q :: .java g :: U.frames.tail := hend
    have hW' : U.WarmedH s₂.vm := hW₂
    have hs₂ : s₂ = ((({ U with heap := s₂.heap, slotsUsed := s₂.slotsUsed } : State).setVm s₂.vm).setTop g).pushFrame (.throwing q) := by
      refine e3.trans ?_
      rw [hf₂, State.calling_eq h.top, State.setFrames_setFrames, State.pushFrame, State.frames_setTop _ hr', State.setTop_of_frames _ hr', State.setFrames_setFrames, hr]
      rfl
    have hsame : U.sameButNew ({ U with heap := s₂.heap, slotsUsed := s₂.slotsUsed } : State) L mc ms := by
      refine ⟨?_, q2, q3, q4, q5, q6⟩
      obtain ⟨t, ht, -⟩ := State.frames_cons hr
      show ({ U with heap := s₂.heap, slotsUsed := s₂.slotsUsed } : State) = { U.setFrames U.frames with heap := s₂.heap, slotsUsed := s₂.slotsUsed }
      rw [State.setFrames_self ht]
    subst hg
    refine Or.inr ⟨q, ⟨(({ U with heap := s₂.heap, slotsUsed := s₂.slotsUsed } : State).setVm s₂.vm), Ls ++ L, c0 + mc, s0 + ms⟩,
      ⟨X.admits, X.cas, X.clock, X.frames, X.room, X.hears, X.method, X.code, (X.here.setHeapUsed s₂.heap s₂.slotsUsed).setVm hW'.alike, X.tail, State.WarmedH.trans X.warmed hW', X.limits, X.bytes, X.same.trans (hsame.setVm s.vm)⟩,
      ⟨g, mk, s₂, L, E, ce, rfl, rfl, hx, hce, hcv, hcl, rfl, hL, rfl, rfl⟩, ?_⟩
    show Steps p.tables e below _ (((({ U with heap := s₂.heap, slotsUsed := s₂.slotsUsed } : State).setVm s₂.vm).setTop g).pushFrame (.throwing q))
    rw [← hs₂]
    exact hsteps
end
variable {p : Program} {l : Launch} {e : Env} {R : Room} {s : State} {m : MethodId} {args : Array Value} {below : List Frame} {meth : Method} {c : Code} {T : State} {H : Heap} {locs : List Loc} {cells slots : Nat}
theorem vx_callVX (X : Stand p l e R s m args below meth c T locs cells slots) (hexec : p.tables.exec = Jvm.exec) {own C : String} {index : Nat} {y : MethodName} {bytes : ByteArray} {maxL : Nat} {ret : Option FieldType} {hh : List (Nat × Nat × Nat × Nat)}
    (hown : s.vm.findClass own = some m.cls) (hlink : (Cond.methodLink own index y).before args s = true) (hinst : (Cond.instanceMethod y).before args s = true) (hsel : (Cond.selects C y y).before args s = true)
    (hcode : (Cond.codeWith y bytes maxL ret hh).before args s = true) (hy : y.cls ≠ "java/lang/invoke/MethodHandle" ∧ y.cls ≠ "java/lang/invoke/VarHandle")
    {W9 : Nat} {Pre : Pt → Array Value → Prop} {Post : Pt → Array Value → Option Value → Pt → Prop} {PostX : Pt → Array Value → Addr → Pt → Prop} (hK : vx_Back l R p e below s args y 3 W9 Pre Post PostX)
    {b : Addr} {cellB : Cell} (hcell : T.heap[b]? = some cellB) (hobj : cellB.vm.isStatics = false) (hcls : s.vm.findClass C = some cellB.cls)
    {g : JFrame} (hg : g.method = m) (hsize : g.locals.size = c.maxLocals) {argsL rest : List Value} (hlen : ∀ sig, parseMethodDescriptor y.desc = some sig → argsL.length = sig.parameters.length)
    (hstack : g.stack = argsL.reverse ++ .ref b :: rest) (hW : 2 * g.monitorRoom + (rest.map fun v => v.category).sum ≤ W9) (hdg : decode c.code g.pc = .ok (.invokevirtual index, 3))
    (hpre : ∀ vm₁, s.WarmedH vm₁ → Pre ⟨T.setVm vm₁, locs, cells, slots⟩ (Value.ref b :: argsL).toArray) :
    (∃ (v : Option Value) (vm₁ : Vm) (B : Pt), s.WarmedH vm₁ ∧ Stand p l e R s m args below meth c B.U B.locs B.cells B.slots ∧ Post ⟨T.setVm vm₁, locs, cells, slots⟩ (Value.ref b :: argsL).toArray v B ∧
      ∀ target, Steps p.tables e below (B.U.setTop { g with pc := g.pc + 3, stack := v.toList ++ rest }) target → Steps p.tables e below (T.setTop g) target) ∨
    (∃ (q : Addr) (vm₁ : Vm) (B : Pt), s.WarmedH vm₁ ∧ Stand p l e R s m args below meth c B.U B.locs B.cells B.slots ∧ PostX ⟨T.setVm vm₁, locs, cells, slots⟩ (Value.ref b :: argsL).toArray q B ∧
      Steps p.tables e below (T.setTop g) ((B.U.setTop { g with stack := rest }).pushFrame (.throwing q))) := by
  obtain ⟨mk, methM, hnamed, hmethM, hstM, habM⟩ := Cond.instanceMethod_spec hinst
  obtain ⟨m8, methM', cM, hn8, hmethM', -, -, -, -, -, -, hsigM⟩ := Cond.codeWith_spec hcode
  cases Option.some.inj (hn8.symm.trans hnamed)
  cases hmethM.symm.trans hmethM'
  obtain ⟨c2, r2, m2, q1, q2, q3, q4, kP, hkP, hkPi⟩ := Cond.selects_spec hsel
  cases hcls.symm.trans q1
  cases (State.methodFound?_of_named hnamed hy).symm.trans q2
  cases hnamed.symm.trans q3
  have hselP : selectMethod e.platform s.vm cellB.cls mk = .method mk := by rw [Launch.admits_selectMethod X.admits]; exact q4
  obtain ⟨vm₁, X₁, hstep₁⟩ := X.invokevirtual hexec hown hlink hnamed hmethM hstM hkP hkPi hy (a := b) (cell := cellB) hcell
    (fun z h => by rw [h] at hobj; cases hobj) hselP hmethM habM hkP hkPi (g := g) hg (argsL := argsL) (rest := rest) (hlen _ hsigM) hstack hdg
  rcases hK m meth c ⟨T.setVm vm₁, locs, cells, slots⟩ { g with stack := rest } (.invokevirtual index) mk (Value.ref b :: argsL).toArray X₁ hg hsize hdg hW (X₁.named hnamed) (hpre vm₁ X₁.warmed) with ⟨v, B, X', hpost, hsteps⟩ | ⟨q, B, X', hpost, hsteps⟩
  · exact Or.inl ⟨v, vm₁, B, X₁.warmed, X', hpost, fun target h => hstep₁ _ fun acts => by rw [doInvoke_state]; exact hsteps.trans h⟩
  · exact Or.inr ⟨q, vm₁, B, X₁.warmed, X', hpost, hstep₁ _ fun acts => by rw [doInvoke_state]; exact hsteps⟩
theorem vx_callSX (X : Stand p l e R s m args below meth c T locs cells slots) (hexec : p.tables.exec = Jvm.exec) {own : String} {index : Nat} {y : MethodName} {bytes : ByteArray} {maxL : Nat} {ret : Option FieldType} {hh : List (Nat × Nat × Nat × Nat)}
    (hown : s.vm.findClass own = some m.cls) (hlink : (Cond.methodLink own index y).before args s = true) (hstat : (Cond.static y).before args s = true) (hinit : (Cond.initialized y.cls).before args s = true)
    (hcode : (Cond.codeWith y bytes maxL ret hh).before args s = true) (hy : y.cls ≠ "java/lang/invoke/MethodHandle" ∧ y.cls ≠ "java/lang/invoke/VarHandle")
    {W9 : Nat} {Pre : Pt → Array Value → Prop} {Post : Pt → Array Value → Option Value → Pt → Prop} {PostX : Pt → Array Value → Addr → Pt → Prop} (hK : vx_Back l R p e below s args y 3 W9 Pre Post PostX)
    {g : JFrame} (hg : g.method = m) (hsize : g.locals.size = c.maxLocals) {argsL rest : List Value} (hlen : ∀ sig, parseMethodDescriptor y.desc = some sig → argsL.length = sig.parameters.length)
    (hstack : g.stack = argsL.reverse ++ rest) (hW : 2 * g.monitorRoom + (rest.map fun v => v.category).sum ≤ W9) (hdg : decode c.code g.pc = .ok (.invokestatic index, 3))
    (hpre : ∀ vm₁, s.WarmedH vm₁ → Pre ⟨T.setVm vm₁, locs, cells, slots⟩ argsL.toArray) :
    (∃ (v : Option Value) (vm₁ : Vm) (B : Pt), s.WarmedH vm₁ ∧ Stand p l e R s m args below meth c B.U B.locs B.cells B.slots ∧ Post ⟨T.setVm vm₁, locs, cells, slots⟩ argsL.toArray v B ∧
      ∀ target, Steps p.tables e below (B.U.setTop { g with pc := g.pc + 3, stack := v.toList ++ rest }) target → Steps p.tables e below (T.setTop g) target) ∨
    (∃ (q : Addr) (vm₁ : Vm) (B : Pt), s.WarmedH vm₁ ∧ Stand p l e R s m args below meth c B.U B.locs B.cells B.slots ∧ PostX ⟨T.setVm vm₁, locs, cells, slots⟩ argsL.toArray q B ∧
      Steps p.tables e below (T.setTop g) ((B.U.setTop { g with stack := rest }).pushFrame (.throwing q))) := by
  obtain ⟨mk, methM, cM, hnamed, hmethM, -, -, -, -, -, -, hsigM⟩ := Cond.codeWith_spec hcode
  have hstatic : methM.isStatic = true := Cond.static_spec hnamed hmethM hstat
  obtain ⟨kP, hkP, -⟩ := className_of_methodNamed hnamed
  have hinitP : kP.init = .initialized := Cond.initialized_spec (findClass_of_methodNamed hnamed) hkP hinit
  obtain ⟨vm₁, X₁, hstep₁⟩ := X.invokestatic hexec hown hlink hnamed hmethM hstatic hkP hinitP hy (g := g) hg (argsL := argsL) (rest := rest) (hlen _ hsigM) hstack hdg
  rcases hK m meth c ⟨T.setVm vm₁, locs, cells, slots⟩ { g with stack := rest } (.invokestatic index) mk argsL.toArray X₁ hg hsize hdg hW (X₁.named hnamed) (hpre vm₁ X₁.warmed) with ⟨v, B, X', hpost, hsteps⟩ | ⟨q, B, X', hpost, hsteps⟩
  · exact Or.inl ⟨v, vm₁, B, X₁.warmed, X', hpost, fun target h => hstep₁ _ fun acts => by rw [doInvoke_state]; exact hsteps.trans h⟩
  · exact Or.inr ⟨q, vm₁, B, X₁.warmed, X', hpost, hstep₁ _ fun acts => by rw [doInvoke_state]; exact hsteps⟩
theorem vx_callVW (X : Stand p l e R s m args below meth c T locs cells slots) (hexec : p.tables.exec = Jvm.exec) {own C : String} {index : Nat} {y : MethodName} {bytes : ByteArray} {maxL : Nat} {ret : Option FieldType} {hh : List (Nat × Nat × Nat × Nat)}
    (hown : s.vm.findClass own = some m.cls) (hlink : (Cond.methodLink own index y).before args s = true) (hinst : (Cond.instanceMethod y).before args s = true) (hsel : (Cond.selects C y y).before args s = true)
    (hcode : (Cond.codeWith y bytes maxL ret hh).before args s = true) (hy : y.cls ≠ "java/lang/invoke/MethodHandle" ∧ y.cls ≠ "java/lang/invoke/VarHandle")
    {W9 : Nat} {Pre : Pt → Array Value → Prop} {Post : Pt → Array Value → Option Value → Pt → Prop} (hK : Back l R p e below s args y 3 W9 Pre Post)
    {b : Addr} {cellB : Cell} (hcell : T.heap[b]? = some cellB) (hobj : cellB.vm.isStatics = false) (hcls : s.vm.findClass C = some cellB.cls)
    {g : JFrame} (hg : g.method = m) (hsize : g.locals.size = c.maxLocals) {argsL rest : List Value} (hlen : ∀ sig, parseMethodDescriptor y.desc = some sig → argsL.length = sig.parameters.length)
    (hstack : g.stack = argsL.reverse ++ .ref b :: rest) (hW : 2 * g.monitorRoom + (rest.map fun v => v.category).sum ≤ W9) (hdg : decode c.code g.pc = .ok (.invokevirtual index, 3))
    (hpre : ∀ vm₁, s.WarmedH vm₁ → Pre ⟨T.setVm vm₁, locs, cells, slots⟩ (Value.ref b :: argsL).toArray) :
    ∃ (v : Option Value) (vm₁ : Vm) (B : Pt), s.WarmedH vm₁ ∧ Stand p l e R s m args below meth c B.U B.locs B.cells B.slots ∧ Post ⟨T.setVm vm₁, locs, cells, slots⟩ (Value.ref b :: argsL).toArray v B ∧
      ∀ target, Steps p.tables e below (B.U.setTop { g with pc := g.pc + 3, stack := v.toList ++ rest }) target → Steps p.tables e below (T.setTop g) target := by
  obtain ⟨mk, methM, hnamed, hmethM, hstM, habM⟩ := Cond.instanceMethod_spec hinst
  obtain ⟨m8, methM', cM, hn8, hmethM', -, -, -, -, -, -, hsigM⟩ := Cond.codeWith_spec hcode
  cases Option.some.inj (hn8.symm.trans hnamed)
  cases hmethM.symm.trans hmethM'
  obtain ⟨c2, r2, m2, q1, q2, q3, q4, kP, hkP, hkPi⟩ := Cond.selects_spec hsel
  cases hcls.symm.trans q1
  cases (State.methodFound?_of_named hnamed hy).symm.trans q2
  cases hnamed.symm.trans q3
  have hselP : selectMethod e.platform s.vm cellB.cls mk = .method mk := by rw [Launch.admits_selectMethod X.admits]; exact q4
  obtain ⟨vm₁, X₁, hstep₁⟩ := X.invokevirtual hexec hown hlink hnamed hmethM hstM hkP hkPi hy (a := b) (cell := cellB) hcell
    (fun z h => by rw [h] at hobj; cases hobj) hselP hmethM habM hkP hkPi (g := g) hg (argsL := argsL) (rest := rest) (hlen _ hsigM) hstack hdg
  obtain ⟨v, B, X', hpost, hsteps⟩ := hK m meth c ⟨T.setVm vm₁, locs, cells, slots⟩ { g with stack := rest } (.invokevirtual index) mk (Value.ref b :: argsL).toArray X₁ hg hsize hdg hW (X₁.named hnamed) (hpre vm₁ X₁.warmed)
  exact ⟨v, vm₁, B, X₁.warmed, X', hpost, fun target h => hstep₁ _ fun acts => by rw [doInvoke_state]; exact hsteps.trans h⟩
abbrev vx_CVW (R : Room) (s : State) (args : Array Value) (own C : String) (index : Nat) (y : MethodName) (bytes : ByteArray) (maxL : Nat) (ret : Option FieldType) (hh : List (Nat × Nat × Nat × Nat)) (ws : List Cond) (rm : Room) (mc ms n : Nat) : Prop :=
  (rm.cells = mc ∧ rm.slots = ms ∧ rm.frames + 1 ≤ R.frames ∧ 8 + (maxL + 11) + rm.locals ≤ R.locals ∧ (∀ w ∈ ws, ∀ (a' : Array Value) (U : State), s.WarmedH U.vm → w.before a' U = true) ∧ Cond.codeWith y bytes maxL ret hh ∈ ws) ∧
  (Cond.codeWith y bytes maxL ret hh).before args s = true ∧ (Cond.initialized y.cls).before args s = true ∧ (y.cls ≠ "java/lang/invoke/MethodHandle" ∧ y.cls ≠ "java/lang/invoke/VarHandle") ∧
  (∀ sig, parseMethodDescriptor y.desc = some sig → n = sig.parameters.length) ∧ (Cond.methodLink own index y).before args s = true ∧ (Cond.instanceMethod y).before args s = true ∧ (Cond.selects C y y).before args s = true
theorem vx_cwVW {own C : String} {index maxL mc ms : Nat} {y : MethodName} {bytes : ByteArray} {ret : Option FieldType} {hh : List (Nat × Nat × Nat × Nat)} {Ts ws ws' : List Cond} {rm : Room} (n : Nat) (ht : ∀ w ∈ Ts, w.before args s = true) (hT : GoodIn Ts (wsV own index C y ws)) (hw : ws = Cond.codeWith y bytes maxL ret hh :: ws') (hrc : rm.cells = mc) (hrs : rm.slots = ms)
    (hd : y.cls = C ∧ y.cls ≠ "java/lang/invoke/MethodHandle" ∧ y.cls ≠ "java/lang/invoke/VarHandle" ∧ (parseMethodDescriptor y.desc).map (fun d => d.parameters.length) = some n) (hR : rm.frames + 1 ≤ R.frames ∧ 8 + (maxL + 11) + rm.locals ≤ R.locals) :
    vx_CVW R s args own C index y bytes maxL ret hh ws rm mc ms n := by
  obtain ⟨hC, hd⟩ := hd
  subst hC
  have ok : ∀ w ∈ wsV own index y.cls y ws, w.before args s = true := fun w h => ht w (hT w h).1
  have hG : GoodIn Ts ws := fun w h => hT w (by unfold wsV; exact List.mem_append_right _ h)
  have hc : Cond.codeWith y bytes maxL ret hh ∈ ws := by rw [hw]; exact List.mem_cons_self
  refine ⟨⟨hrc, hrs, hR.1, hR.2, pay_in ht hG, hc⟩, ht _ (hG _ hc).1, ok _ (by simp [wsV]), ⟨hd.1, hd.2.1⟩, fun sig h => ?_, ok _ (by simp [wsV]), ok _ (by simp [wsV]), ok _ (by simp [wsV])⟩
  have h2 := hd.2.2
  rw [h] at h2
  exact (Option.some.inj h2).symm
theorem vx_runVW {y : MethodName} {bytes cc : ByteArray} {maxL nL mc ms n index : Nat} {ret : Option FieldType} {hh : List (Nat × Nat × Nat × Nat)} {ws : List Cond} {rm : Room} {Pc : Array Value → State → Prop} {Qc : Array Value → State → Outcome → State → Prop} {free : Addr → Prop} {Ts : List Cond} {own C : String} {b : Addr} {As rest : List Value} {g : JFrame}
    (S : CallFix p m c cc nL s args Ts own) (hM : Met l y ws rm Pc Qc mc ms free) (cw : vx_CVW R s args own C index y bytes maxL ret hh ws rm mc ms n) (hp : PreV s H C b Pc As)
    (hg : g.method = m) (hn : As.length = n) (hsize : g.locals.size = nL) (hstack : g.stack = As.reverse ++ .ref b :: rest) (hW : 2 * g.monitorRoom + (rest.map fun v => v.category).sum ≤ 8) (hdg : decode cc g.pc = .ok (.invokevirtual index, 3)) (hf : cells + mc ≤ R.cells ∧ slots + ms ≤ R.slots) :
    va_Run p l e R s m args below meth c H locs cells slots mc ms g rest (Qc (Value.ref b :: As).toArray) free := by
  obtain ⟨⟨hrc, hrs, hfr, hlo, hws, hcw⟩, hcode, hini, hy, hlen, hl, hin, hse⟩ := cw
  have hK : Back l R p e below s args y 3 8 (PreOf R mc ms Pc) (PostOf Qc mc ms free) := va_backW (hh := hh) (bytes := bytes) (maxL := maxL) (ret := ret) hM hp.1 hrc hrs hfr hlo hws hcw (fun a' U hW => word_at hW (Or.inl (by first | rfl | simp [Cond.onTables, Cond.keeps, Cond.steady])) hini)
  obtain ⟨hx, hb, hml, ho, -⟩ := S
  obtain ⟨-, ⟨cellB, hcB, hoB, hclB⟩, hPc⟩ := hp
  intro T hT X
  obtain ⟨v, vm₁, ⟨U', l2, c2, s2⟩, hW₁, X', ⟨g', mk, t, L, e1, e2, hq, h1, hL, h2, h3⟩, st⟩ := vx_callVW X hx (C := C) (hh := hh) (bytes := bytes) (maxL := maxL) (ret := ret) ho hl hin hse hcode hy hK (by rw [hT]; exact hcB) hoB hclB hg (hsize.trans hml.symm) (argsL := As) (rest := rest) (fun sig h => hn.trans (hlen sig h)) hstack hW (by rw [hb]; exact hdg)
    (fun vm₁ hW₁ => ⟨hf.1, hf.2, hPc (T.setVm vm₁) hT hW₁⟩)
  dsimp only [Pt.U, Pt.locs, Pt.cells, Pt.slots] at X' e1 e2 h1 h2 h3 st
  subst h1; subst h2; subst h3
  exact ⟨v, (T.setVm vm₁).calling g' mk (Value.ref b :: As).toArray, t, U', L, hT, X', hL, e1, e2, hq, st⟩
section
variable {y : MethodName} {bytes cc : ByteArray} {maxL nL mc ms n index : Nat} {ret : Option FieldType} {ws : List Cond} {rm : Room} {Pc : Array Value → State → Prop} {Qc : Array Value → State → Outcome → State → Prop} {XC : String → State → State → Prop} {free : Addr → Prop} {Ts : List Cond} {own C : String} {b : Addr} {As rest : List Value} {g : JFrame}
theorem vx_runVX {hh : List (Nat × Nat × Nat × Nat)} (S : CallFix p m c cc nL s args Ts own) (hM : vx_Met l y ws rm Pc Qc XC mc ms free) (cw : vx_CVW R s args own C index y bytes maxL ret hh ws rm mc ms n) (hp : PreV s H C b Pc As)
    (hg : g.method = m) (hn : As.length = n) (hsize : g.locals.size = nL) (hstack : g.stack = As.reverse ++ .ref b :: rest) (hW : 2 * g.monitorRoom + (rest.map fun v => v.category).sum ≤ 8) (hdg : decode cc g.pc = .ok (.invokevirtual index, 3)) (hf : cells + mc ≤ R.cells ∧ slots + ms ≤ R.slots) :
    vx_Run p l e R s m args below meth c H locs cells slots mc ms g rest (Qc (Value.ref b :: As).toArray) XC free := by
  obtain ⟨⟨hrc, hrs, hfr, hlo, hws, hcw⟩, hcode, hini, hy, hlen, hl, hin, hse⟩ := cw
  have hK : vx_Back l R p e below s args y 3 8 (PreOf R mc ms Pc) (PostOf Qc mc ms free) (vx_Post XC mc ms free) := vx_backW (hh := hh) (bytes := bytes) (maxL := maxL) (ret := ret) hM hp.1 hrc hrs hfr hlo hws hcw (fun a' U hW => word_at hW (Or.inl (by first | rfl | simp [Cond.onTables, Cond.keeps, Cond.steady])) hini)
  obtain ⟨hx, hb, hml, ho, -⟩ := S
  obtain ⟨-, ⟨cellB, hcB, hoB, hclB⟩, hPc⟩ := hp
  intro T hT X
  rcases vx_callVX X hx (C := C) (hh := hh) (bytes := bytes) (maxL := maxL) (ret := ret) ho hl hin hse hcode hy hK (by rw [hT]; exact hcB) hoB hclB hg (hsize.trans hml.symm) (argsL := As) (rest := rest) (fun sig h => hn.trans (hlen sig h)) hstack hW (by rw [hb]; exact hdg)
    (fun vm₁ hW₁ => ⟨hf.1, hf.2, hPc (T.setVm vm₁) hT hW₁⟩) with ⟨v, vm₁, ⟨U', l2, c2, s2⟩, hW₁, X', ⟨g', mk, t, L, e1, e2, hq, h1, hL, h2, h3⟩, st⟩ | ⟨q, vm₁, ⟨U', l2, c2, s2⟩, hW₁, X', ⟨g', mk, t, L, E, ce, e1, e2, hq, hce, hcv, hcl, h1, hL, h2, h3⟩, st⟩
  · dsimp only [Pt.U, Pt.locs, Pt.cells, Pt.slots] at X' e1 e2 h1 h2 h3 st
    subst h1; subst h2; subst h3
    exact Or.inl ⟨v, (T.setVm vm₁).calling g' mk (Value.ref b :: As).toArray, t, U', L, hT, X', hL, e1, e2, hq, st⟩
  · dsimp only [Pt.U, Pt.locs, Pt.cells, Pt.slots] at X' e1 e2 h1 h2 h3 st hcl
    subst h1; subst h2; subst h3
    exact Or.inr ⟨q, (T.setVm vm₁).calling g' mk (Value.ref b :: As).toArray, t, U', L, E, ce, hT, X', hL, e1, e2, hq, hce, hcv, vx_cls hW₁ hcl, st⟩
theorem vx_runSX {hh : List (Nat × Nat × Nat × Nat)} (S : CallFix p m c cc nL s args Ts own) (hM : vx_Met l y ws rm Pc Qc XC mc ms free) (cw : vx_CSW R s args own index y bytes maxL ret hh ws rm mc ms n) (hp : PreS s H Pc As)
    (hg : g.method = m) (hn : As.length = n) (hsize : g.locals.size = nL) (hstack : g.stack = As.reverse ++ rest) (hW : 2 * g.monitorRoom + (rest.map fun v => v.category).sum ≤ 8) (hdg : decode cc g.pc = .ok (.invokestatic index, 3)) (hf : cells + mc ≤ R.cells ∧ slots + ms ≤ R.slots) :
    vx_Run p l e R s m args below meth c H locs cells slots mc ms g rest (Qc As.toArray) XC free := by
  obtain ⟨⟨hrc, hrs, hfr, hlo, hws, hcw⟩, hcode, hini, hy, hlen, hl, hstt⟩ := cw
  have hK : vx_Back l R p e below s args y 3 8 (PreOf R mc ms Pc) (PostOf Qc mc ms free) (vx_Post XC mc ms free) := vx_backW (hh := hh) (bytes := bytes) (maxL := maxL) (ret := ret) hM hp.1 hrc hrs hfr hlo hws hcw (fun a' U hW => word_at hW (Or.inl (by first | rfl | simp [Cond.onTables, Cond.keeps, Cond.steady])) hini)
  obtain ⟨hx, hb, hml, ho, -⟩ := S
  intro T hT X
  rcases vx_callSX X hx (hh := hh) (bytes := bytes) (maxL := maxL) (ret := ret) ho hl hstt hini hcode hy hK hg (hsize.trans hml.symm) (argsL := As) (rest := rest) (fun sig h => hn.trans (hlen sig h)) hstack hW (by rw [hb]; exact hdg)
    (fun vm₁ hW₁ => ⟨hf.1, hf.2, hp.2 (T.setVm vm₁) hT hW₁⟩) with ⟨v, vm₁, ⟨U', l2, c2, s2⟩, hW₁, X', ⟨g', mk, t, L, e1, e2, hq, h1, hL, h2, h3⟩, st⟩ | ⟨q, vm₁, ⟨U', l2, c2, s2⟩, hW₁, X', ⟨g', mk, t, L, E, ce, e1, e2, hq, hce, hcv, hcl, h1, hL, h2, h3⟩, st⟩
  · dsimp only [Pt.U, Pt.locs, Pt.cells, Pt.slots] at X' e1 e2 h1 h2 h3 st
    subst h1; subst h2; subst h3
    exact Or.inl ⟨v, (T.setVm vm₁).calling g' mk As.toArray, t, U', L, hT, X', hL, e1, e2, hq, st⟩
  · dsimp only [Pt.U, Pt.locs, Pt.cells, Pt.slots] at X' e1 e2 h1 h2 h3 st hcl
    subst h1; subst h2; subst h3
    exact Or.inr ⟨q, (T.setVm vm₁).calling g' mk As.toArray, t, U', L, E, ce, hT, X', hL, e1, e2, hq, hce, hcv, vx_cls hW₁ hcl, st⟩
end
end VXH
theorem vx_ofWH {l : Launch} {y : MethodName} {ws ws' : List Cond} {rm : Room} {Pc : Array Value → State → Prop} {Qc : Array Value → State → Outcome → State → Prop} {XC : String → State → State → Prop} {mc ms : Nat} {free : Addr → Prop} {cc : ByteArray} {maxL : Nat} {ret : Option FieldType} {hh : List (Nat × Nat × Nat × Nat)}
    (hy : plainName y.cls = true) (hw : ws = Cond.codeWith y cc maxL ret hh :: ws')
    (body : ∀ p e s m args below meth c s₁, BodyLoose p l y (headSpec ws rm) cc maxL ret e s m args below meth c s₁ → c.maxLocals = maxL → Pc args s →
      W p l e (headSpec ws rm).room s m args below meth c s.heap [] 0 0 (vx_MQ below Qc XC args s mc ms free) (entryFrame m args maxL)) : vx_Met l y ws rm Pc Qc XC mc ms free := by
  refine MetFree.of_bodyS (code := cc) (maxLocals := maxL) (ret := ret) hy ?_ ?_
  · intro args s m h hn
    obtain ⟨m9, meth, c, hn9, h1, h2, h3, h4, -, h5, h6, -⟩ := Cond.codeWith_spec (atoms_spec (ws := ws) h _ (by rw [hw]; exact List.mem_cons_self))
    cases hn.symm.trans hn9
    exact ⟨meth, c, h1, h2, h3, h4, h5, h6⟩
  · intro p e s m args below meth c s₁ B hml hP _
    have hh0 : s₁.heap = s.heap := by rw [B.state]; rfl
    obtain ⟨t, a1, o, b1, b2, b3⟩ := body p e s m args below meth c s₁ B hml hP s₁ hh0 (Stand.of_body B)
    exact ⟨t, o, a1, b1, b2, b3⟩
/-! ===== END ===== -/
end
section
/-! names of mine: classes, fields, methods, decode rows (printed by wip/whole/gen/names.py) -/
def RX0 : String := "ListMemory$Collector"
def TX0 : u_T := fun k => match k with
  | 0 => ("ListMemory$Collector", "listed", "[I", true)
  | 1 => ("ListMemory$Collector", "isListed", "[I", true)
  | 2 => ("ListMemory$Collector", "isRest", "[I", true)
  | 3 => ("ListMemory$Collector", "newPlaces", "[I", true)
  | _ => ("ListMemory$Collector", "many", "I", false)
def tyX0 : Nat → FieldType := fun k => match k with
  | 0 => .array .int
  | 1 => .array .int
  | 2 => .array .int
  | 3 => .array .int
  | _ => .int
theorem nmX0 : ∀ a, a < 5 → ∀ b, b < 5 → a ≠ b → (TX0 a).2.1 ≠ (TX0 b).2.1 := by decide +kernel
theorem tyX0_ok : ∀ k, k < 5 → parseFieldDescriptor (TX0 k).2.2.1 = some (tyX0 k) := by decide +kernel
theorem pn_X0 : plainName RX0 = true := by decide +kernel
def RX1 : String := "ListMemory$Half"
def TX1 : u_T := fun k => match k with
  | 0 => ("ListMemory$Half", "codes", "[I", true)
  | 1 => ("ListMemory$Half", "contents", "[J", true)
  | _ => ("ListMemory$Half", "taken", "I", false)
def tyX1 : Nat → FieldType := fun k => match k with
  | 0 => .array .int
  | 1 => .array .long
  | _ => .int
theorem nmX1 : ∀ a, a < 3 → ∀ b, b < 3 → a ≠ b → (TX1 a).2.1 ≠ (TX1 b).2.1 := by decide +kernel
theorem tyX1_ok : ∀ k, k < 3 → parseFieldDescriptor (TX1 k).2.2.1 = some (tyX1 k) := by decide +kernel
theorem pn_X1 : plainName RX1 = true := by decide +kernel
def RX2 : String := "ListMemory$Matching"
def TX2 : u_T := fun k => match k with
  | 0 => ("ListMemory$Matching", "forth", "[I", true)
  | 1 => ("ListMemory$Matching", "back", "[I", true)
  | 2 => ("ListMemory$Matching", "waiting", "[I", true)
  | _ => ("ListMemory$Matching", "many", "I", false)
def tyX2 : Nat → FieldType := fun k => match k with
  | 0 => .array .int
  | 1 => .array .int
  | 2 => .array .int
  | _ => .int
theorem nmX2 : ∀ a, a < 4 → ∀ b, b < 4 → a ≠ b → (TX2 a).2.1 ≠ (TX2 b).2.1 := by decide +kernel
theorem tyX2_ok : ∀ k, k < 4 → parseFieldDescriptor (TX2 k).2.2.1 = some (tyX2 k) := by decide +kernel
theorem pn_X2 : plainName RX2 = true := by decide +kernel
def RX3 : String := "ListMemory"
def TX3 : u_T := fun k => match k with
  | 0 => ("ListMemory", "roots", "[J", true)
  | 1 => ("ListMemory", "collector", "LListMemory$Collector;", true)
  | 2 => ("ListMemory", "matching", "LListMemory$Matching;", true)
  | 3 => ("ListMemory", "counted", "[I", true)
  | 4 => ("ListMemory", "half", "LListMemory$Half;", false)
  | 5 => ("ListMemory", "otherHalf", "LListMemory$Half;", false)
  | _ => ("ListMemory", "collections", "I", false)
def tyX3 : Nat → FieldType := fun k => match k with
  | 0 => .array .long
  | 1 => .object "ListMemory$Collector"
  | 2 => .object "ListMemory$Matching"
  | 3 => .array .int
  | 4 => .object "ListMemory$Half"
  | 5 => .object "ListMemory$Half"
  | _ => .int
theorem nmX3 : ∀ a, a < 7 → ∀ b, b < 7 → a ≠ b → (TX3 a).2.1 ≠ (TX3 b).2.1 := by decide +kernel
theorem tyX3_ok : ∀ k, k < 7 → parseFieldDescriptor (TX3 k).2.2.1 = some (tyX3 k) := by decide +kernel
theorem pn_X3 : plainName RX3 = true := by decide +kernel
def RX4 : String := "ListMemoryModel"
def TX4 : u_T := fun k => match k with
  | 0 => ("ListMemoryModel", "thrown", "I", false)
  | 1 => ("ListMemoryModel", "codes", "[I", true)
  | 2 => ("ListMemoryModel", "kinds", "[I", true)
  | 3 => ("ListMemoryModel", "contents", "[J", true)
  | 4 => ("ListMemoryModel", "used", "I", false)
  | 5 => ("ListMemoryModel", "rootKinds", "[I", true)
  | 6 => ("ListMemoryModel", "roots", "[J", true)
  | 7 => ("ListMemoryModel", "collections", "I", false)
  | 8 => ("ListMemoryModel", "kind", "I", false)
  | 9 => ("ListMemoryModel", "content", "J", false)
  | 10 => ("ListMemoryModel", "listed", "[I", true)
  | 11 => ("ListMemoryModel", "many", "I", false)
  | 12 => ("ListMemoryModel", "laid", "[I", true)
  | 13 => ("ListMemoryModel", "newCodes", "[I", true)
  | 14 => ("ListMemoryModel", "newKinds", "[I", true)
  | 15 => ("ListMemoryModel", "newContents", "[J", true)
  | 16 => ("ListMemoryModel", "next", "I", false)
  | 17 => ("ListMemoryModel", "against", "[I", true)
  | 18 => ("ListMemoryModel", "back", "[I", true)
  | 19 => ("ListMemoryModel", "todo", "[I", true)
  | _ => ("ListMemoryModel", "seen", "[Z", true)
def tyX4 : Nat → FieldType := fun k => match k with
  | 0 => .int
  | 1 => .array .int
  | 2 => .array .int
  | 3 => .array .long
  | 4 => .int
  | 5 => .array .int
  | 6 => .array .long
  | 7 => .int
  | 8 => .int
  | 9 => .long
  | 10 => .array .int
  | 11 => .int
  | 12 => .array .int
  | 13 => .array .int
  | 14 => .array .int
  | 15 => .array .long
  | 16 => .int
  | 17 => .array .int
  | 18 => .array .int
  | 19 => .array .int
  | _ => .array .boolean
theorem nmX4 : ∀ a, a < 21 → ∀ b, b < 21 → a ≠ b → (TX4 a).2.1 ≠ (TX4 b).2.1 := by decide +kernel
theorem tyX4_ok : ∀ k, k < 21 → parseFieldDescriptor (TX4 k).2.2.1 = some (tyX4 k) := by decide +kernel
theorem pn_X4 : plainName RX4 = true := by decide +kernel
def RL : String := "ListMemoryLaw"
theorem pn_L : plainName RL = true := by decide +kernel
def RJ : String := "java/util/Arrays"
theorem pn_J : plainName RJ = true := by decide +kernel
abbrev lmCl : List vw_C := [(RX0, TX0, 5), (RX1, TX1, 3), (RX2, TX2, 4), (RX3, TX3, 7), (RX4, TX4, 21)]
abbrev cX0_init : ByteArray := prog_2_method_1_code
def yX0_init : MethodName := ⟨RX0, "<init>", "()V"⟩
abbrev mX0_init : MethodName × ByteArray × Nat × Option FieldType := (yX0_init, cX0_init, 1, none)
abbrev cX0_listReached : ByteArray := prog_2_method_2_code
def yX0_listReached : MethodName := ⟨RX0, "listReached", "(LListMemory$Half;[J)V"⟩
abbrev mX0_listReached : MethodName × ByteArray × Nat × Option FieldType := (yX0_listReached, cX0_listReached, 7, none)
abbrev cX0_listPair : ByteArray := prog_2_method_3_code
def yX0_listPair : MethodName := ⟨RX0, "listPair", "(LListMemory$Half;J)V"⟩
abbrev mX0_listPair : MethodName × ByteArray × Nat × Option FieldType := (yX0_listPair, cX0_listPair, 5, none)
abbrev cX0_layListed : ByteArray := prog_2_method_4_code
def yX0_layListed : MethodName := ⟨RX0, "layListed", "(LListMemory$Half;LListMemory$Half;Z)V"⟩
abbrev mX0_layListed : MethodName × ByteArray × Nat × Option FieldType := (yX0_layListed, cX0_layListed, 7, none)
abbrev cX0_layCell : ByteArray := prog_2_method_5_code
def yX0_layCell : MethodName := ⟨RX0, "layCell", "(LListMemory$Half;LListMemory$Half;I)I"⟩
abbrev mX0_layCell : MethodName × ByteArray × Nat × Option FieldType := (yX0_layCell, cX0_layCell, 9, (some .int))
abbrev cX0_tellNewPlaces : ByteArray := prog_2_method_6_code
def yX0_tellNewPlaces : MethodName := ⟨RX0, "tellNewPlaces", "(LListMemory$Half;LListMemory$Half;[J)V"⟩
abbrev mX0_tellNewPlaces : MethodName × ByteArray × Nat × Option FieldType := (yX0_tellNewPlaces, cX0_tellNewPlaces, 5, none)
abbrev cX0_inNewHalf : ByteArray := prog_2_method_7_code
def yX0_inNewHalf : MethodName := ⟨RX0, "inNewHalf", "(LListMemory$Half;J)J"⟩
abbrev mX0_inNewHalf : MethodName × ByteArray × Nat × Option FieldType := (yX0_inNewHalf, cX0_inNewHalf, 4, (some .long))
abbrev cX1_init : ByteArray := prog_3_method_1_code
def yX1_init : MethodName := ⟨RX1, "<init>", "()V"⟩
abbrev mX1_init : MethodName × ByteArray × Nat × Option FieldType := (yX1_init, cX1_init, 1, none)
abbrev cX1_clear : ByteArray := prog_3_method_2_code
def yX1_clear : MethodName := ⟨RX1, "clear", "()V"⟩
abbrev mX1_clear : MethodName × ByteArray × Nat × Option FieldType := (yX1_clear, cX1_clear, 1, none)
abbrev cX1_wordsLeft : ByteArray := prog_3_method_3_code
def yX1_wordsLeft : MethodName := ⟨RX1, "wordsLeft", "()I"⟩
abbrev mX1_wordsLeft : MethodName × ByteArray × Nat × Option FieldType := (yX1_wordsLeft, cX1_wordsLeft, 1, (some .int))
abbrev cX1_isUsed : ByteArray := prog_3_method_4_code
def yX1_isUsed : MethodName := ⟨RX1, "isUsed", "(I)Z"⟩
abbrev mX1_isUsed : MethodName × ByteArray × Nat × Option FieldType := (yX1_isUsed, cX1_isUsed, 2, (some .boolean))
abbrev cX1_codeAt : ByteArray := prog_3_method_5_code
def yX1_codeAt : MethodName := ⟨RX1, "codeAt", "(I)I"⟩
abbrev mX1_codeAt : MethodName × ByteArray × Nat × Option FieldType := (yX1_codeAt, cX1_codeAt, 2, (some .int))
abbrev cX1_contentAt : ByteArray := prog_3_method_6_code
def yX1_contentAt : MethodName := ⟨RX1, "contentAt", "(I)J"⟩
abbrev mX1_contentAt : MethodName × ByteArray × Nat × Option FieldType := (yX1_contentAt, cX1_contentAt, 2, (some .long))
abbrev cX1_setContent : ByteArray := prog_3_method_7_code
def yX1_setContent : MethodName := ⟨RX1, "setContent", "(IJ)V"⟩
abbrev mX1_setContent : MethodName × ByteArray × Nat × Option FieldType := (yX1_setContent, cX1_setContent, 4, none)
abbrev cX1_take : ByteArray := prog_3_method_8_code
def yX1_take : MethodName := ⟨RX1, "take", "(IJ)I"⟩
abbrev mX1_take : MethodName × ByteArray × Nat × Option FieldType := (yX1_take, cX1_take, 5, (some .int))
abbrev cX1_takeTwo : ByteArray := prog_3_method_9_code
def yX1_takeTwo : MethodName := ⟨RX1, "takeTwo", "(JJ)I"⟩
abbrev mX1_takeTwo : MethodName × ByteArray × Nat × Option FieldType := (yX1_takeTwo, cX1_takeTwo, 6, (some .int))
abbrev cX1_cellOf : ByteArray := prog_3_method_10_code
def yX1_cellOf : MethodName := ⟨RX1, "cellOf", "(J)I"⟩
abbrev mX1_cellOf : MethodName × ByteArray × Nat × Option FieldType := (yX1_cellOf, cX1_cellOf, 6, (some .int))
abbrev cX1_restOf : ByteArray := prog_3_method_11_code
def yX1_restOf : MethodName := ⟨RX1, "restOf", "(I)J"⟩
abbrev mX1_restOf : MethodName × ByteArray × Nat × Option FieldType := (yX1_restOf, cX1_restOf, 2, (some .long))
abbrev cX1_countMoved : ByteArray := prog_3_method_12_code
def yX1_countMoved : MethodName := ⟨RX1, "countMoved", "()I"⟩
abbrev mX1_countMoved : MethodName × ByteArray × Nat × Option FieldType := (yX1_countMoved, cX1_countMoved, 3, (some .int))
abbrev cX2_init : ByteArray := prog_4_method_1_code
def yX2_init : MethodName := ⟨RX2, "<init>", "()V"⟩
abbrev mX2_init : MethodName × ByteArray × Nat × Option FieldType := (yX2_init, cX2_init, 1, none)
abbrev cX2_canBeMade : ByteArray := prog_4_method_2_code
def yX2_canBeMade : MethodName := ⟨RX2, "canBeMade", "(LListMemory$Half;JJ)Z"⟩
abbrev mX2_canBeMade : MethodName × ByteArray × Nat × Option FieldType := (yX2_canBeMade, cX2_canBeMade, 9, (some .boolean))
abbrev cX2_fit : ByteArray := prog_4_method_3_code
def yX2_fit : MethodName := ⟨RX2, "fit", "(LListMemory$Half;JJ)Z"⟩
abbrev mX2_fit : MethodName × ByteArray × Nat × Option FieldType := (yX2_fit, cX2_fit, 8, (some .boolean))
abbrev cX3_init : ByteArray := prog_1_method_1_code
def yX3_init : MethodName := ⟨RX3, "<init>", "()V"⟩
abbrev mX3_init : MethodName × ByteArray × Nat × Option FieldType := (yX3_init, cX3_init, 1, none)
abbrev cX3_number : ByteArray := prog_1_method_2_code
def yX3_number : MethodName := ⟨RX3, "number", "(IJ)V"⟩
abbrev mX3_number : MethodName × ByteArray × Nat × Option FieldType := (yX3_number, cX3_number, 4, none)
abbrev cX3_drop : ByteArray := prog_1_method_3_code
def yX3_drop : MethodName := ⟨RX3, "drop", "(I)V"⟩
abbrev mX3_drop : MethodName × ByteArray × Nat × Option FieldType := (yX3_drop, cX3_drop, 2, none)
abbrev cX3_copy : ByteArray := prog_1_method_4_code
def yX3_copy : MethodName := ⟨RX3, "copy", "(II)V"⟩
abbrev mX3_copy : MethodName × ByteArray × Nat × Option FieldType := (yX3_copy, cX3_copy, 3, none)
abbrev cX3_cons : ByteArray := prog_1_method_5_code
def yX3_cons : MethodName := ⟨RX3, "cons", "(III)V"⟩
abbrev mX3_cons : MethodName × ByteArray × Nat × Option FieldType := (yX3_cons, cX3_cons, 4, none)
abbrev cX3_list : ByteArray := prog_1_method_6_code
def yX3_list : MethodName := ⟨RX3, "list", "(III)V"⟩
abbrev mX3_list : MethodName × ByteArray × Nat × Option FieldType := (yX3_list, cX3_list, 6, none)
abbrev cX3_first : ByteArray := prog_1_method_7_code
def yX3_first : MethodName := ⟨RX3, "first", "(II)V"⟩
abbrev mX3_first : MethodName × ByteArray × Nat × Option FieldType := (yX3_first, cX3_first, 3, none)
abbrev cX3_rest : ByteArray := prog_1_method_8_code
def yX3_rest : MethodName := ⟨RX3, "rest", "(II)V"⟩
abbrev mX3_rest : MethodName × ByteArray × Nat × Option FieldType := (yX3_rest, cX3_rest, 3, none)
abbrev cX3_setFirst : ByteArray := prog_1_method_9_code
def yX3_setFirst : MethodName := ⟨RX3, "setFirst", "(II)V"⟩
abbrev mX3_setFirst : MethodName × ByteArray × Nat × Option FieldType := (yX3_setFirst, cX3_setFirst, 3, none)
abbrev cX3_setRest : ByteArray := prog_1_method_10_code
def yX3_setRest : MethodName := ⟨RX3, "setRest", "(II)V"⟩
abbrev mX3_setRest : MethodName × ByteArray × Nat × Option FieldType := (yX3_setRest, cX3_setRest, 5, none)
abbrev cX3_append : ByteArray := prog_1_method_11_code
def yX3_append : MethodName := ⟨RX3, "append", "(III)V"⟩
abbrev mX3_append : MethodName × ByteArray × Nat × Option FieldType := (yX3_append, cX3_append, 6, none)
abbrev cX3_kind : ByteArray := prog_1_method_12_code
def yX3_kind : MethodName := ⟨RX3, "kind", "(I)I"⟩
abbrev mX3_kind : MethodName × ByteArray × Nat × Option FieldType := (yX3_kind, cX3_kind, 2, (some .int))
abbrev cX3_value : ByteArray := prog_1_method_13_code
def yX3_value : MethodName := ⟨RX3, "value", "(I)J"⟩
abbrev mX3_value : MethodName × ByteArray × Nat × Option FieldType := (yX3_value, cX3_value, 2, (some .long))
abbrev cX3_same : ByteArray := prog_1_method_14_code
def yX3_same : MethodName := ⟨RX3, "same", "(II)Z"⟩
abbrev mX3_same : MethodName × ByteArray × Nat × Option FieldType := (yX3_same, cX3_same, 3, (some .boolean))
abbrev cX3_length : ByteArray := prog_1_method_15_code
def yX3_length : MethodName := ⟨RX3, "length", "(I)I"⟩
abbrev mX3_length : MethodName × ByteArray × Nat × Option FieldType := (yX3_length, cX3_length, 2, (some .int))
abbrev cX3_words : ByteArray := prog_1_method_16_code
def yX3_words : MethodName := ⟨RX3, "words", "(I)I"⟩
abbrev mX3_words : MethodName × ByteArray × Nat × Option FieldType := (yX3_words, cX3_words, 2, (some .int))
abbrev cX3_alike : ByteArray := prog_1_method_17_code
def yX3_alike : MethodName := ⟨RX3, "alike", "(II)Z"⟩
abbrev mX3_alike : MethodName × ByteArray × Nat × Option FieldType := (yX3_alike, cX3_alike, 3, (some .boolean))
abbrev cX3_collect : ByteArray := prog_1_method_18_code
def yX3_collect : MethodName := ⟨RX3, "collect", "()I"⟩
abbrev mX3_collect : MethodName × ByteArray × Nat × Option FieldType := (yX3_collect, cX3_collect, 1, (some .int))
abbrev cX3_about : ByteArray := prog_1_method_19_code
def yX3_about : MethodName := ⟨RX3, "about", "(I)I"⟩
abbrev mX3_about : MethodName × ByteArray × Nat × Option FieldType := (yX3_about, cX3_about, 2, (some .int))
abbrev cX3_word : ByteArray := prog_1_method_20_code
def yX3_word : MethodName := ⟨RX3, "word", "(II)J"⟩
abbrev mX3_word : MethodName × ByteArray × Nat × Option FieldType := (yX3_word, cX3_word, 3, (some .long))
abbrev cX3_content : ByteArray := prog_1_method_21_code
def yX3_content : MethodName := ⟨RX3, "content", "(IJ)J"⟩
abbrev mX3_content : MethodName × ByteArray × Nat × Option FieldType := (yX3_content, cX3_content, 3, (some .long))
abbrev cX3_kindOf : ByteArray := prog_1_method_22_code
def yX3_kindOf : MethodName := ⟨RX3, "kindOf", "(J)I"⟩
abbrev mX3_kindOf : MethodName × ByteArray × Nat × Option FieldType := (yX3_kindOf, cX3_kindOf, 2, (some .int))
abbrev cX3_bodyOf : ByteArray := prog_1_method_23_code
def yX3_bodyOf : MethodName := ⟨RX3, "bodyOf", "(J)J"⟩
abbrev mX3_bodyOf : MethodName × ByteArray × Nat × Option FieldType := (yX3_bodyOf, cX3_bodyOf, 2, (some .long))
abbrev cX3_placeOf : ByteArray := prog_1_method_24_code
def yX3_placeOf : MethodName := ⟨RX3, "placeOf", "(J)I"⟩
abbrev mX3_placeOf : MethodName × ByteArray × Nat × Option FieldType := (yX3_placeOf, cX3_placeOf, 4, (some .int))
abbrev cX3_checkRoot : ByteArray := prog_1_method_25_code
def yX3_checkRoot : MethodName := ⟨RX3, "checkRoot", "(I)V"⟩
abbrev mX3_checkRoot : MethodName × ByteArray × Nat × Option FieldType := (yX3_checkRoot, cX3_checkRoot, 1, none)
abbrev cX3_checkRoots : ByteArray := prog_1_method_26_code
def yX3_checkRoots : MethodName := ⟨RX3, "checkRoots", "(II)V"⟩
abbrev mX3_checkRoots : MethodName × ByteArray × Nat × Option FieldType := (yX3_checkRoots, cX3_checkRoots, 2, none)
abbrev cX3_checkHoldsPair : ByteArray := prog_1_method_27_code
def yX3_checkHoldsPair : MethodName := ⟨RX3, "checkHoldsPair", "(I)V"⟩
abbrev mX3_checkHoldsPair : MethodName × ByteArray × Nat × Option FieldType := (yX3_checkHoldsPair, cX3_checkHoldsPair, 2, none)
abbrev cX3_makeRoom : ByteArray := prog_1_method_28_code
def yX3_makeRoom : MethodName := ⟨RX3, "makeRoom", "(I)V"⟩
abbrev mX3_makeRoom : MethodName × ByteArray × Nat × Option FieldType := (yX3_makeRoom, cX3_makeRoom, 2, none)
abbrev cX3_makeCollection : ByteArray := prog_1_method_29_code
def yX3_makeCollection : MethodName := ⟨RX3, "makeCollection", "()V"⟩
abbrev mX3_makeCollection : MethodName × ByteArray × Nat × Option FieldType := (yX3_makeCollection, cX3_makeCollection, 2, none)
abbrev cX3_isSame : ByteArray := prog_1_method_30_code
def yX3_isSame : MethodName := ⟨RX3, "isSame", "(JJ)Z"⟩
abbrev mX3_isSame : MethodName × ByteArray × Nat × Option FieldType := (yX3_isSame, cX3_isSame, 5, (some .boolean))
abbrev cX3_countPairs : ByteArray := prog_1_method_31_code
def yX3_countPairs : MethodName := ⟨RX3, "countPairs", "(J)I"⟩
abbrev mX3_countPairs : MethodName × ByteArray × Nat × Option FieldType := (yX3_countPairs, cX3_countPairs, 6, (some .int))
abbrev cX3_countWords : ByteArray := prog_1_method_32_code
def yX3_countWords : MethodName := ⟨RX3, "countWords", "(J)I"⟩
abbrev mX3_countWords : MethodName × ByteArray × Nat × Option FieldType := (yX3_countWords, cX3_countWords, 8, (some .int))
abbrev cX3_takeFirsts : ByteArray := prog_1_method_33_code
def yX3_takeFirsts : MethodName := ⟨RX3, "takeFirsts", "(JIJ)V"⟩
abbrev mX3_takeFirsts : MethodName × ByteArray × Nat × Option FieldType := (yX3_takeFirsts, cX3_takeFirsts, 13, none)
abbrev cX4_init : ByteArray := prog_6_method_1_code
def yX4_init : MethodName := ⟨RX4, "<init>", "()V"⟩
abbrev mX4_init : MethodName × ByteArray × Nat × Option FieldType := (yX4_init, cX4_init, 1, none)
abbrev cX4_thrown : ByteArray := prog_6_method_2_code
def yX4_thrown : MethodName := ⟨RX4, "thrown", "()I"⟩
abbrev mX4_thrown : MethodName × ByteArray × Nat × Option FieldType := (yX4_thrown, cX4_thrown, 1, (some .int))
abbrev cX4_refuse : ByteArray := prog_6_method_3_code
def yX4_refuse : MethodName := ⟨RX4, "refuse", "(ZZ)Z"⟩
abbrev mX4_refuse : MethodName × ByteArray × Nat × Option FieldType := (yX4_refuse, cX4_refuse, 3, (some .boolean))
abbrev cX4_none : ByteArray := prog_6_method_4_code
def yX4_none : MethodName := ⟨RX4, "none", "(I)Z"⟩
abbrev mX4_none : MethodName × ByteArray × Nat × Option FieldType := (yX4_none, cX4_none, 1, (some .boolean))
abbrev cX4_setRoot : ByteArray := prog_6_method_5_code
def yX4_setRoot : MethodName := ⟨RX4, "setRoot", "(IIJ)V"⟩
abbrev mX4_setRoot : MethodName × ByteArray × Nat × Option FieldType := (yX4_setRoot, cX4_setRoot, 5, none)
abbrev cX4_look : ByteArray := prog_6_method_6_code
def yX4_look : MethodName := ⟨RX4, "look", "(IJ)V"⟩
abbrev mX4_look : MethodName × ByteArray × Nat × Option FieldType := (yX4_look, cX4_look, 4, none)
abbrev cX4_cell : ByteArray := prog_6_method_7_code
def yX4_cell : MethodName := ⟨RX4, "cell", "(J)I"⟩
abbrev mX4_cell : MethodName × ByteArray × Nat × Option FieldType := (yX4_cell, cX4_cell, 4, (some .int))
abbrev cX4_cellOf : ByteArray := prog_6_method_8_code
def yX4_cellOf : MethodName := ⟨RX4, "cellOf", "(I)I"⟩
abbrev mX4_cellOf : MethodName × ByteArray × Nat × Option FieldType := (yX4_cellOf, cX4_cellOf, 2, (some .int))
abbrev cX4_lookRest : ByteArray := prog_6_method_9_code
def yX4_lookRest : MethodName := ⟨RX4, "lookRest", "(I)V"⟩
abbrev mX4_lookRest : MethodName × ByteArray × Nat × Option FieldType := (yX4_lookRest, cX4_lookRest, 2, none)
abbrev cX4_isSame : ByteArray := prog_6_method_10_code
def yX4_isSame : MethodName := ⟨RX4, "isSame", "(IJIJ)Z"⟩
abbrev mX4_isSame : MethodName × ByteArray × Nat × Option FieldType := (yX4_isSame, cX4_isSame, 7, (some .boolean))
abbrev cX4_put : ByteArray := prog_6_method_11_code
def yX4_put : MethodName := ⟨RX4, "put", "(IIJ)I"⟩
abbrev mX4_put : MethodName × ByteArray × Nat × Option FieldType := (yX4_put, cX4_put, 5, (some .int))
abbrev cX4_room : ByteArray := prog_6_method_12_code
def yX4_room : MethodName := ⟨RX4, "room", "(I)Z"⟩
abbrev mX4_room : MethodName × ByteArray × Nat × Option FieldType := (yX4_room, cX4_room, 2, (some .boolean))
abbrev cX4_enlist : ByteArray := prog_6_method_13_code
def yX4_enlist : MethodName := ⟨RX4, "enlist", "(IJ)V"⟩
abbrev mX4_enlist : MethodName × ByteArray × Nat × Option FieldType := (yX4_enlist, cX4_enlist, 6, none)
abbrev cX4_lay : ByteArray := prog_6_method_14_code
def yX4_lay : MethodName := ⟨RX4, "lay", "(IIJ)V"⟩
abbrev mX4_lay : MethodName × ByteArray × Nat × Option FieldType := (yX4_lay, cX4_lay, 5, none)
abbrev cX4_spine : ByteArray := prog_6_method_15_code
def yX4_spine : MethodName := ⟨RX4, "spine", "(I)V"⟩
abbrev mX4_spine : MethodName × ByteArray × Nat × Option FieldType := (yX4_spine, cX4_spine, 8, none)
abbrev cX4_gather : ByteArray := prog_6_method_16_code
def yX4_gather : MethodName := ⟨RX4, "gather", "()V"⟩
abbrev mX4_gather : MethodName × ByteArray × Nat × Option FieldType := (yX4_gather, cX4_gather, 3, none)
abbrev cX4_number : ByteArray := prog_6_method_17_code
def yX4_number : MethodName := ⟨RX4, "number", "(IJ)V"⟩
abbrev mX4_number : MethodName × ByteArray × Nat × Option FieldType := (yX4_number, cX4_number, 4, none)
abbrev cX4_drop : ByteArray := prog_6_method_18_code
def yX4_drop : MethodName := ⟨RX4, "drop", "(I)V"⟩
abbrev mX4_drop : MethodName × ByteArray × Nat × Option FieldType := (yX4_drop, cX4_drop, 2, none)
abbrev cX4_copy : ByteArray := prog_6_method_19_code
def yX4_copy : MethodName := ⟨RX4, "copy", "(II)V"⟩
abbrev mX4_copy : MethodName × ByteArray × Nat × Option FieldType := (yX4_copy, cX4_copy, 3, none)
abbrev cX4_cons : ByteArray := prog_6_method_20_code
def yX4_cons : MethodName := ⟨RX4, "cons", "(III)V"⟩
abbrev mX4_cons : MethodName × ByteArray × Nat × Option FieldType := (yX4_cons, cX4_cons, 7, none)
abbrev cX4_list : ByteArray := prog_6_method_21_code
def yX4_list : MethodName := ⟨RX4, "list", "(III)V"⟩
abbrev mX4_list : MethodName × ByteArray × Nat × Option FieldType := (yX4_list, cX4_list, 7, none)
abbrev cX4_first : ByteArray := prog_6_method_22_code
def yX4_first : MethodName := ⟨RX4, "first", "(II)V"⟩
abbrev mX4_first : MethodName × ByteArray × Nat × Option FieldType := (yX4_first, cX4_first, 5, none)
abbrev cX4_rest : ByteArray := prog_6_method_23_code
def yX4_rest : MethodName := ⟨RX4, "rest", "(II)V"⟩
abbrev mX4_rest : MethodName × ByteArray × Nat × Option FieldType := (yX4_rest, cX4_rest, 4, none)
abbrev cX4_setFirst : ByteArray := prog_6_method_24_code
def yX4_setFirst : MethodName := ⟨RX4, "setFirst", "(II)V"⟩
abbrev mX4_setFirst : MethodName × ByteArray × Nat × Option FieldType := (yX4_setFirst, cX4_setFirst, 5, none)
abbrev cX4_setRest : ByteArray := prog_6_method_25_code
def yX4_setRest : MethodName := ⟨RX4, "setRest", "(II)V"⟩
abbrev mX4_setRest : MethodName × ByteArray × Nat × Option FieldType := (yX4_setRest, cX4_setRest, 7, none)
abbrev cX4_lengthOf : ByteArray := prog_6_method_26_code
def yX4_lengthOf : MethodName := ⟨RX4, "lengthOf", "(IJ)I"⟩
abbrev mX4_lengthOf : MethodName × ByteArray × Nat × Option FieldType := (yX4_lengthOf, cX4_lengthOf, 5, (some .int))
abbrev cX4_append : ByteArray := prog_6_method_27_code
def yX4_append : MethodName := ⟨RX4, "append", "(III)V"⟩
abbrev mX4_append : MethodName × ByteArray × Nat × Option FieldType := (yX4_append, cX4_append, 11, none)
abbrev cX4_kind : ByteArray := prog_6_method_28_code
def yX4_kind : MethodName := ⟨RX4, "kind", "(I)I"⟩
abbrev mX4_kind : MethodName × ByteArray × Nat × Option FieldType := (yX4_kind, cX4_kind, 2, (some .int))
abbrev cX4_value : ByteArray := prog_6_method_29_code
def yX4_value : MethodName := ⟨RX4, "value", "(I)J"⟩
abbrev mX4_value : MethodName × ByteArray × Nat × Option FieldType := (yX4_value, cX4_value, 2, (some .long))
abbrev cX4_same : ByteArray := prog_6_method_30_code
def yX4_same : MethodName := ⟨RX4, "same", "(II)Z"⟩
abbrev mX4_same : MethodName × ByteArray × Nat × Option FieldType := (yX4_same, cX4_same, 3, (some .boolean))
abbrev cX4_length : ByteArray := prog_6_method_31_code
def yX4_length : MethodName := ⟨RX4, "length", "(I)I"⟩
abbrev mX4_length : MethodName × ByteArray × Nat × Option FieldType := (yX4_length, cX4_length, 2, (some .int))
abbrev cX4_words : ByteArray := prog_6_method_32_code
def yX4_words : MethodName := ⟨RX4, "words", "(I)I"⟩
abbrev mX4_words : MethodName × ByteArray × Nat × Option FieldType := (yX4_words, cX4_words, 5, (some .int))
abbrev cX4_meet : ByteArray := prog_6_method_33_code
def yX4_meet : MethodName := ⟨RX4, "meet", "(IJIJ)Z"⟩
abbrev mX4_meet : MethodName × ByteArray × Nat × Option FieldType := (yX4_meet, cX4_meet, 9, (some .boolean))
abbrev cX4_alike : ByteArray := prog_6_method_34_code
def yX4_alike : MethodName := ⟨RX4, "alike", "(II)Z"⟩
abbrev mX4_alike : MethodName × ByteArray × Nat × Option FieldType := (yX4_alike, cX4_alike, 10, (some .boolean))
abbrev cX4_collect : ByteArray := prog_6_method_35_code
def yX4_collect : MethodName := ⟨RX4, "collect", "()I"⟩
abbrev mX4_collect : MethodName × ByteArray × Nat × Option FieldType := (yX4_collect, cX4_collect, 1, (some .int))
abbrev cX4_about : ByteArray := prog_6_method_36_code
def yX4_about : MethodName := ⟨RX4, "about", "(I)I"⟩
abbrev mX4_about : MethodName × ByteArray × Nat × Option FieldType := (yX4_about, cX4_about, 4, (some .int))
abbrev cX4_word : ByteArray := prog_6_method_37_code
def yX4_word : MethodName := ⟨RX4, "word", "(II)J"⟩
abbrev mX4_word : MethodName × ByteArray × Nat × Option FieldType := (yX4_word, cX4_word, 4, (some .long))
abbrev cL_number : ByteArray := method_3_code
def yL_number : MethodName := ⟨RL, "number", "(LListMemory;IJ)I"⟩
abbrev mL_number : MethodName × ByteArray × Nat × Option FieldType := (yL_number, cL_number, 5, (some .int))
abbrev cL_drop : ByteArray := method_4_code
def yL_drop : MethodName := ⟨RL, "drop", "(LListMemory;I)I"⟩
abbrev mL_drop : MethodName × ByteArray × Nat × Option FieldType := (yL_drop, cL_drop, 3, (some .int))
abbrev cL_copy : ByteArray := method_5_code
def yL_copy : MethodName := ⟨RL, "copy", "(LListMemory;II)I"⟩
abbrev mL_copy : MethodName × ByteArray × Nat × Option FieldType := (yL_copy, cL_copy, 4, (some .int))
abbrev cL_cons : ByteArray := method_6_code
def yL_cons : MethodName := ⟨RL, "cons", "(LListMemory;III)I"⟩
abbrev mL_cons : MethodName × ByteArray × Nat × Option FieldType := (yL_cons, cL_cons, 5, (some .int))
abbrev cL_list : ByteArray := method_7_code
def yL_list : MethodName := ⟨RL, "list", "(LListMemory;III)I"⟩
abbrev mL_list : MethodName × ByteArray × Nat × Option FieldType := (yL_list, cL_list, 5, (some .int))
abbrev cL_first : ByteArray := method_8_code
def yL_first : MethodName := ⟨RL, "first", "(LListMemory;II)I"⟩
abbrev mL_first : MethodName × ByteArray × Nat × Option FieldType := (yL_first, cL_first, 4, (some .int))
abbrev cL_rest : ByteArray := method_9_code
def yL_rest : MethodName := ⟨RL, "rest", "(LListMemory;II)I"⟩
abbrev mL_rest : MethodName × ByteArray × Nat × Option FieldType := (yL_rest, cL_rest, 4, (some .int))
abbrev cL_setFirst : ByteArray := method_10_code
def yL_setFirst : MethodName := ⟨RL, "setFirst", "(LListMemory;II)I"⟩
abbrev mL_setFirst : MethodName × ByteArray × Nat × Option FieldType := (yL_setFirst, cL_setFirst, 4, (some .int))
abbrev cL_setRest : ByteArray := method_11_code
def yL_setRest : MethodName := ⟨RL, "setRest", "(LListMemory;II)I"⟩
abbrev mL_setRest : MethodName × ByteArray × Nat × Option FieldType := (yL_setRest, cL_setRest, 4, (some .int))
abbrev cL_append : ByteArray := method_12_code
def yL_append : MethodName := ⟨RL, "append", "(LListMemory;III)I"⟩
abbrev mL_append : MethodName × ByteArray × Nat × Option FieldType := (yL_append, cL_append, 5, (some .int))
abbrev cL_kind : ByteArray := method_13_code
def yL_kind : MethodName := ⟨RL, "kind", "(LListMemory;I[J)I"⟩
abbrev mL_kind : MethodName × ByteArray × Nat × Option FieldType := (yL_kind, cL_kind, 4, (some .int))
abbrev cL_value : ByteArray := method_14_code
def yL_value : MethodName := ⟨RL, "value", "(LListMemory;I[J)I"⟩
abbrev mL_value : MethodName × ByteArray × Nat × Option FieldType := (yL_value, cL_value, 4, (some .int))
abbrev cL_same : ByteArray := method_15_code
def yL_same : MethodName := ⟨RL, "same", "(LListMemory;II[J)I"⟩
abbrev mL_same : MethodName × ByteArray × Nat × Option FieldType := (yL_same, cL_same, 5, (some .int))
abbrev cL_length : ByteArray := method_16_code
def yL_length : MethodName := ⟨RL, "length", "(LListMemory;I[J)I"⟩
abbrev mL_length : MethodName × ByteArray × Nat × Option FieldType := (yL_length, cL_length, 4, (some .int))
abbrev cL_words : ByteArray := method_17_code
def yL_words : MethodName := ⟨RL, "words", "(LListMemory;I[J)I"⟩
abbrev mL_words : MethodName × ByteArray × Nat × Option FieldType := (yL_words, cL_words, 4, (some .int))
abbrev cL_alike : ByteArray := method_18_code
def yL_alike : MethodName := ⟨RL, "alike", "(LListMemory;II[J)I"⟩
abbrev mL_alike : MethodName × ByteArray × Nat × Option FieldType := (yL_alike, cL_alike, 5, (some .int))
abbrev cL_word : ByteArray := method_19_code
def yL_word : MethodName := ⟨RL, "word", "(LListMemory;II[J)I"⟩
abbrev mL_word : MethodName × ByteArray × Nat × Option FieldType := (yL_word, cL_word, 5, (some .int))
abbrev cL_law : ByteArray := code
def yL_law : MethodName := ⟨RL, "law", "([I)Z"⟩
abbrev mL_law : MethodName × ByteArray × Nat × Option FieldType := (yL_law, cL_law, 8, (some .boolean))
abbrev cJ_fill : ByteArray := prog_15_method_103_code
def yJ_fill : MethodName := ⟨RJ, "fill", "([II)V"⟩
abbrev mJ_fill : MethodName × ByteArray × Nat × Option FieldType := (yJ_fill, cJ_fill, 4, none)
end
section
theorem dX0_init_0 : decode cX0_init 0 = .ok (.aload_n 0, 1) := by decide +kernel
theorem dX0_init_1 : decode cX0_init 1 = .ok (.invokespecial 3, 3) := by decide +kernel
theorem dX0_init_4 : decode cX0_init 4 = .ok (.aload_n 0, 1) := by decide +kernel
theorem dX0_init_5 : decode cX0_init 5 = .ok (.bipush 120, 2) := by decide +kernel
theorem dX0_init_7 : decode cX0_init 7 = .ok (.newarray .int, 2) := by decide +kernel
theorem dX0_init_9 : decode cX0_init 9 = .ok (.putfield 9, 3) := by decide +kernel
theorem dX0_init_12 : decode cX0_init 12 = .ok (.aload_n 0, 1) := by decide +kernel
theorem dX0_init_13 : decode cX0_init 13 = .ok (.bipush 120, 2) := by decide +kernel
theorem dX0_init_15 : decode cX0_init 15 = .ok (.newarray .int, 2) := by decide +kernel
theorem dX0_init_17 : decode cX0_init 17 = .ok (.putfield 15, 3) := by decide +kernel
theorem dX0_init_20 : decode cX0_init 20 = .ok (.aload_n 0, 1) := by decide +kernel
theorem dX0_init_21 : decode cX0_init 21 = .ok (.bipush 120, 2) := by decide +kernel
theorem dX0_init_23 : decode cX0_init 23 = .ok (.newarray .int, 2) := by decide +kernel
theorem dX0_init_25 : decode cX0_init 25 = .ok (.putfield 18, 3) := by decide +kernel
theorem dX0_init_28 : decode cX0_init 28 = .ok (.aload_n 0, 1) := by decide +kernel
theorem dX0_init_29 : decode cX0_init 29 = .ok (.bipush 120, 2) := by decide +kernel
theorem dX0_init_31 : decode cX0_init 31 = .ok (.newarray .int, 2) := by decide +kernel
theorem dX0_init_33 : decode cX0_init 33 = .ok (.putfield 21, 3) := by decide +kernel
theorem dX0_init_36 : decode cX0_init 36 = .ok (.aload_n 0, 1) := by decide +kernel
theorem dX0_init_37 : decode cX0_init 37 = .ok (.iconst 0, 1) := by decide +kernel
theorem dX0_init_38 : decode cX0_init 38 = .ok (.putfield 24, 3) := by decide +kernel
theorem dX0_init_41 : decode cX0_init 41 = .ok (.return_, 1) := by decide +kernel
theorem dX0_listReached_0 : decode cX0_listReached 0 = .ok (.aload_n 0, 1) := by decide +kernel
theorem dX0_listReached_1 : decode cX0_listReached 1 = .ok (.iconst 0, 1) := by decide +kernel
theorem dX0_listReached_2 : decode cX0_listReached 2 = .ok (.putfield 24, 3) := by decide +kernel
theorem dX0_listReached_5 : decode cX0_listReached 5 = .ok (.aload_n 0, 1) := by decide +kernel
theorem dX0_listReached_6 : decode cX0_listReached 6 = .ok (.getfield 15, 3) := by decide +kernel
theorem dX0_listReached_9 : decode cX0_listReached 9 = .ok (.iconst 0, 1) := by decide +kernel
theorem dX0_listReached_10 : decode cX0_listReached 10 = .ok (.invokestatic 28, 3) := by decide +kernel
theorem dX0_listReached_13 : decode cX0_listReached 13 = .ok (.aload_n 0, 1) := by decide +kernel
theorem dX0_listReached_14 : decode cX0_listReached 14 = .ok (.getfield 18, 3) := by decide +kernel
theorem dX0_listReached_17 : decode cX0_listReached 17 = .ok (.iconst 0, 1) := by decide +kernel
theorem dX0_listReached_18 : decode cX0_listReached 18 = .ok (.invokestatic 28, 3) := by decide +kernel
theorem dX0_listReached_21 : decode cX0_listReached 21 = .ok (.aload_n 0, 1) := by decide +kernel
theorem dX0_listReached_22 : decode cX0_listReached 22 = .ok (.getfield 21, 3) := by decide +kernel
theorem dX0_listReached_25 : decode cX0_listReached 25 = .ok (.iconst (-1), 1) := by decide +kernel
theorem dX0_listReached_26 : decode cX0_listReached 26 = .ok (.invokestatic 28, 3) := by decide +kernel
theorem dX0_listReached_29 : decode cX0_listReached 29 = .ok (.iconst 0, 1) := by decide +kernel
theorem dX0_listReached_30 : decode cX0_listReached 30 = .ok (.istore_n 3, 1) := by decide +kernel
theorem dX0_listReached_31 : decode cX0_listReached 31 = .ok (.iload_n 3, 1) := by decide +kernel
theorem dX0_listReached_32 : decode cX0_listReached 32 = .ok (.aload_n 2, 1) := by decide +kernel
theorem dX0_listReached_33 : decode cX0_listReached 33 = .ok (.arraylength, 1) := by decide +kernel
theorem dX0_listReached_34 : decode cX0_listReached 34 = .ok (.if_icmp .ge 17, 3) := by decide +kernel
theorem dX0_listReached_37 : decode cX0_listReached 37 = .ok (.aload_n 0, 1) := by decide +kernel
theorem dX0_listReached_38 : decode cX0_listReached 38 = .ok (.aload_n 1, 1) := by decide +kernel
theorem dX0_listReached_39 : decode cX0_listReached 39 = .ok (.aload_n 2, 1) := by decide +kernel
theorem dX0_listReached_40 : decode cX0_listReached 40 = .ok (.iload_n 3, 1) := by decide +kernel
theorem dX0_listReached_41 : decode cX0_listReached 41 = .ok (.laload, 1) := by decide +kernel
theorem dX0_listReached_42 : decode cX0_listReached 42 = .ok (.invokevirtual 34, 3) := by decide +kernel
theorem dX0_listReached_45 : decode cX0_listReached 45 = .ok (.iinc 3 1, 3) := by decide +kernel
theorem dX0_listReached_48 : decode cX0_listReached 48 = .ok (.goto (-17), 3) := by decide +kernel
theorem dX0_listReached_51 : decode cX0_listReached 51 = .ok (.iconst 0, 1) := by decide +kernel
theorem dX0_listReached_52 : decode cX0_listReached 52 = .ok (.istore_n 3, 1) := by decide +kernel
theorem dX0_listReached_53 : decode cX0_listReached 53 = .ok (.iload_n 3, 1) := by decide +kernel
theorem dX0_listReached_54 : decode cX0_listReached 54 = .ok (.aload_n 0, 1) := by decide +kernel
theorem dX0_listReached_55 : decode cX0_listReached 55 = .ok (.getfield 24, 3) := by decide +kernel
theorem dX0_listReached_58 : decode cX0_listReached 58 = .ok (.if_icmp .ge 70, 3) := by decide +kernel
theorem dX0_listReached_61 : decode cX0_listReached 61 = .ok (.iload_n 3, 1) := by decide +kernel
theorem dX0_listReached_62 : decode cX0_listReached 62 = .ok (.bipush 120, 2) := by decide +kernel
theorem dX0_listReached_64 : decode cX0_listReached 64 = .ok (.if_icmp .ge 64, 3) := by decide +kernel
theorem dX0_listReached_67 : decode cX0_listReached 67 = .ok (.aload_n 0, 1) := by decide +kernel
theorem dX0_listReached_68 : decode cX0_listReached 68 = .ok (.getfield 9, 3) := by decide +kernel
theorem dX0_listReached_71 : decode cX0_listReached 71 = .ok (.iload_n 3, 1) := by decide +kernel
theorem dX0_listReached_72 : decode cX0_listReached 72 = .ok (.iaload, 1) := by decide +kernel
theorem dX0_listReached_73 : decode cX0_listReached 73 = .ok (.istore 4, 2) := by decide +kernel
theorem dX0_listReached_75 : decode cX0_listReached 75 = .ok (.aload_n 1, 1) := by decide +kernel
theorem dX0_listReached_76 : decode cX0_listReached 76 = .ok (.iload 4, 2) := by decide +kernel
theorem dX0_listReached_78 : decode cX0_listReached 78 = .ok (.invokevirtual 38, 3) := by decide +kernel
theorem dX0_listReached_81 : decode cX0_listReached 81 = .ok (.lstore 5, 2) := by decide +kernel
theorem dX0_listReached_83 : decode cX0_listReached 83 = .ok (.aload_n 0, 1) := by decide +kernel
theorem dX0_listReached_84 : decode cX0_listReached 84 = .ok (.aload_n 1, 1) := by decide +kernel
theorem dX0_listReached_85 : decode cX0_listReached 85 = .ok (.aload_n 1, 1) := by decide +kernel
theorem dX0_listReached_86 : decode cX0_listReached 86 = .ok (.iload 4, 2) := by decide +kernel
theorem dX0_listReached_88 : decode cX0_listReached 88 = .ok (.invokevirtual 44, 3) := by decide +kernel
theorem dX0_listReached_91 : decode cX0_listReached 91 = .ok (.invokevirtual 34, 3) := by decide +kernel
theorem dX0_listReached_94 : decode cX0_listReached 94 = .ok (.aload_n 0, 1) := by decide +kernel
theorem dX0_listReached_95 : decode cX0_listReached 95 = .ok (.aload_n 1, 1) := by decide +kernel
theorem dX0_listReached_96 : decode cX0_listReached 96 = .ok (.lload 5, 2) := by decide +kernel
theorem dX0_listReached_98 : decode cX0_listReached 98 = .ok (.invokevirtual 34, 3) := by decide +kernel
theorem dX0_listReached_101 : decode cX0_listReached 101 = .ok (.lload 5, 2) := by decide +kernel
theorem dX0_listReached_103 : decode cX0_listReached 103 = .ok (.invokestatic 47, 3) := by decide +kernel
theorem dX0_listReached_106 : decode cX0_listReached 106 = .ok (.iconst 2, 1) := by decide +kernel
theorem dX0_listReached_107 : decode cX0_listReached 107 = .ok (.if_icmp .ne 15, 3) := by decide +kernel
theorem dX0_listReached_110 : decode cX0_listReached 110 = .ok (.aload_n 0, 1) := by decide +kernel
theorem dX0_listReached_111 : decode cX0_listReached 111 = .ok (.getfield 18, 3) := by decide +kernel
theorem dX0_listReached_114 : decode cX0_listReached 114 = .ok (.aload_n 1, 1) := by decide +kernel
theorem dX0_listReached_115 : decode cX0_listReached 115 = .ok (.lload 5, 2) := by decide +kernel
theorem dX0_listReached_117 : decode cX0_listReached 117 = .ok (.invokevirtual 51, 3) := by decide +kernel
theorem dX0_listReached_120 : decode cX0_listReached 120 = .ok (.iconst 1, 1) := by decide +kernel
theorem dX0_listReached_121 : decode cX0_listReached 121 = .ok (.iastore, 1) := by decide +kernel
theorem dX0_listReached_122 : decode cX0_listReached 122 = .ok (.iinc 3 1, 3) := by decide +kernel
theorem dX0_listReached_125 : decode cX0_listReached 125 = .ok (.goto (-72), 3) := by decide +kernel
theorem dX0_listReached_128 : decode cX0_listReached 128 = .ok (.return_, 1) := by decide +kernel
theorem dX0_listPair_0 : decode cX0_listPair 0 = .ok (.lload_n 2, 1) := by decide +kernel
theorem dX0_listPair_1 : decode cX0_listPair 1 = .ok (.invokestatic 47, 3) := by decide +kernel
theorem dX0_listPair_4 : decode cX0_listPair 4 = .ok (.iconst 2, 1) := by decide +kernel
theorem dX0_listPair_5 : decode cX0_listPair 5 = .ok (.if_icmp .eq 4, 3) := by decide +kernel
theorem dX0_listPair_8 : decode cX0_listPair 8 = .ok (.return_, 1) := by decide +kernel
theorem dX0_listPair_9 : decode cX0_listPair 9 = .ok (.aload_n 1, 1) := by decide +kernel
theorem dX0_listPair_10 : decode cX0_listPair 10 = .ok (.lload_n 2, 1) := by decide +kernel
theorem dX0_listPair_11 : decode cX0_listPair 11 = .ok (.invokevirtual 51, 3) := by decide +kernel
theorem dX0_listPair_14 : decode cX0_listPair 14 = .ok (.istore 4, 2) := by decide +kernel
theorem dX0_listPair_16 : decode cX0_listPair 16 = .ok (.aload_n 0, 1) := by decide +kernel
theorem dX0_listPair_17 : decode cX0_listPair 17 = .ok (.getfield 15, 3) := by decide +kernel
theorem dX0_listPair_20 : decode cX0_listPair 20 = .ok (.iload 4, 2) := by decide +kernel
theorem dX0_listPair_22 : decode cX0_listPair 22 = .ok (.iaload, 1) := by decide +kernel
theorem dX0_listPair_23 : decode cX0_listPair 23 = .ok (.ifCond .ne 41, 3) := by decide +kernel
theorem dX0_listPair_26 : decode cX0_listPair 26 = .ok (.aload_n 0, 1) := by decide +kernel
theorem dX0_listPair_27 : decode cX0_listPair 27 = .ok (.getfield 24, 3) := by decide +kernel
theorem dX0_listPair_30 : decode cX0_listPair 30 = .ok (.bipush 120, 2) := by decide +kernel
theorem dX0_listPair_32 : decode cX0_listPair 32 = .ok (.if_icmp .ge 32, 3) := by decide +kernel
theorem dX0_listPair_35 : decode cX0_listPair 35 = .ok (.aload_n 0, 1) := by decide +kernel
theorem dX0_listPair_36 : decode cX0_listPair 36 = .ok (.getfield 15, 3) := by decide +kernel
theorem dX0_listPair_39 : decode cX0_listPair 39 = .ok (.iload 4, 2) := by decide +kernel
theorem dX0_listPair_41 : decode cX0_listPair 41 = .ok (.iconst 1, 1) := by decide +kernel
theorem dX0_listPair_42 : decode cX0_listPair 42 = .ok (.iastore, 1) := by decide +kernel
theorem dX0_listPair_43 : decode cX0_listPair 43 = .ok (.aload_n 0, 1) := by decide +kernel
theorem dX0_listPair_44 : decode cX0_listPair 44 = .ok (.getfield 9, 3) := by decide +kernel
theorem dX0_listPair_47 : decode cX0_listPair 47 = .ok (.aload_n 0, 1) := by decide +kernel
theorem dX0_listPair_48 : decode cX0_listPair 48 = .ok (.getfield 24, 3) := by decide +kernel
theorem dX0_listPair_51 : decode cX0_listPair 51 = .ok (.iload 4, 2) := by decide +kernel
theorem dX0_listPair_53 : decode cX0_listPair 53 = .ok (.iastore, 1) := by decide +kernel
theorem dX0_listPair_54 : decode cX0_listPair 54 = .ok (.aload_n 0, 1) := by decide +kernel
theorem dX0_listPair_55 : decode cX0_listPair 55 = .ok (.dup, 1) := by decide +kernel
theorem dX0_listPair_56 : decode cX0_listPair 56 = .ok (.getfield 24, 3) := by decide +kernel
theorem dX0_listPair_59 : decode cX0_listPair 59 = .ok (.iconst 1, 1) := by decide +kernel
theorem dX0_listPair_60 : decode cX0_listPair 60 = .ok (.iadd, 1) := by decide +kernel
theorem dX0_listPair_61 : decode cX0_listPair 61 = .ok (.putfield 24, 3) := by decide +kernel
theorem dX0_listPair_64 : decode cX0_listPair 64 = .ok (.return_, 1) := by decide +kernel
theorem dX0_layListed_0 : decode cX0_layListed 0 = .ok (.iconst 0, 1) := by decide +kernel
theorem dX0_layListed_1 : decode cX0_layListed 1 = .ok (.istore 4, 2) := by decide +kernel
theorem dX0_layListed_3 : decode cX0_layListed 3 = .ok (.iload 4, 2) := by decide +kernel
theorem dX0_layListed_5 : decode cX0_layListed 5 = .ok (.aload_n 0, 1) := by decide +kernel
theorem dX0_layListed_6 : decode cX0_layListed 6 = .ok (.getfield 24, 3) := by decide +kernel
theorem dX0_layListed_9 : decode cX0_layListed 9 = .ok (.if_icmp .ge 86, 3) := by decide +kernel
theorem dX0_layListed_12 : decode cX0_layListed 12 = .ok (.iload 4, 2) := by decide +kernel
theorem dX0_layListed_14 : decode cX0_layListed 14 = .ok (.bipush 120, 2) := by decide +kernel
theorem dX0_layListed_16 : decode cX0_layListed 16 = .ok (.if_icmp .ge 79, 3) := by decide +kernel
theorem dX0_layListed_19 : decode cX0_layListed 19 = .ok (.aload_n 0, 1) := by decide +kernel
theorem dX0_layListed_20 : decode cX0_layListed 20 = .ok (.getfield 9, 3) := by decide +kernel
theorem dX0_layListed_23 : decode cX0_layListed 23 = .ok (.iload 4, 2) := by decide +kernel
theorem dX0_layListed_25 : decode cX0_layListed 25 = .ok (.iaload, 1) := by decide +kernel
theorem dX0_layListed_26 : decode cX0_layListed 26 = .ok (.istore 5, 2) := by decide +kernel
theorem dX0_layListed_28 : decode cX0_layListed 28 = .ok (.aload_n 0, 1) := by decide +kernel
theorem dX0_layListed_29 : decode cX0_layListed 29 = .ok (.getfield 21, 3) := by decide +kernel
theorem dX0_layListed_32 : decode cX0_layListed 32 = .ok (.iload 5, 2) := by decide +kernel
theorem dX0_layListed_34 : decode cX0_layListed 34 = .ok (.iaload, 1) := by decide +kernel
theorem dX0_layListed_35 : decode cX0_layListed 35 = .ok (.iconst (-1), 1) := by decide +kernel
theorem dX0_layListed_36 : decode cX0_layListed 36 = .ok (.if_icmp .ne 53, 3) := by decide +kernel
theorem dX0_layListed_39 : decode cX0_layListed 39 = .ok (.iload_n 3, 1) := by decide +kernel
theorem dX0_layListed_40 : decode cX0_layListed 40 = .ok (.ifCond .eq 17, 3) := by decide +kernel
theorem dX0_layListed_43 : decode cX0_layListed 43 = .ok (.aload_n 0, 1) := by decide +kernel
theorem dX0_layListed_44 : decode cX0_layListed 44 = .ok (.getfield 18, 3) := by decide +kernel
theorem dX0_layListed_47 : decode cX0_layListed 47 = .ok (.iload 5, 2) := by decide +kernel
theorem dX0_layListed_49 : decode cX0_layListed 49 = .ok (.iaload, 1) := by decide +kernel
theorem dX0_layListed_50 : decode cX0_layListed 50 = .ok (.iconst 1, 1) := by decide +kernel
theorem dX0_layListed_51 : decode cX0_layListed 51 = .ok (.if_icmp .ne 6, 3) := by decide +kernel
theorem dX0_layListed_54 : decode cX0_layListed 54 = .ok (.goto 35, 3) := by decide +kernel
theorem dX0_layListed_57 : decode cX0_layListed 57 = .ok (.iconst 0, 1) := by decide +kernel
theorem dX0_layListed_58 : decode cX0_layListed 58 = .ok (.istore 6, 2) := by decide +kernel
theorem dX0_layListed_60 : decode cX0_layListed 60 = .ok (.iload 6, 2) := by decide +kernel
theorem dX0_layListed_62 : decode cX0_layListed 62 = .ok (.bipush 120, 2) := by decide +kernel
theorem dX0_layListed_64 : decode cX0_layListed 64 = .ok (.if_icmp .ge 25, 3) := by decide +kernel
theorem dX0_layListed_67 : decode cX0_layListed 67 = .ok (.iload 5, 2) := by decide +kernel
theorem dX0_layListed_69 : decode cX0_layListed 69 = .ok (.iconst (-1), 1) := by decide +kernel
theorem dX0_layListed_70 : decode cX0_layListed 70 = .ok (.if_icmp .eq 19, 3) := by decide +kernel
theorem dX0_layListed_73 : decode cX0_layListed 73 = .ok (.aload_n 0, 1) := by decide +kernel
theorem dX0_layListed_74 : decode cX0_layListed 74 = .ok (.aload_n 1, 1) := by decide +kernel
theorem dX0_layListed_75 : decode cX0_layListed 75 = .ok (.aload_n 2, 1) := by decide +kernel
theorem dX0_layListed_76 : decode cX0_layListed 76 = .ok (.iload 5, 2) := by decide +kernel
theorem dX0_layListed_78 : decode cX0_layListed 78 = .ok (.invokevirtual 54, 3) := by decide +kernel
theorem dX0_layListed_81 : decode cX0_layListed 81 = .ok (.istore 5, 2) := by decide +kernel
theorem dX0_layListed_83 : decode cX0_layListed 83 = .ok (.iinc 6 1, 3) := by decide +kernel
theorem dX0_layListed_86 : decode cX0_layListed 86 = .ok (.goto (-26), 3) := by decide +kernel
theorem dX0_layListed_89 : decode cX0_layListed 89 = .ok (.iinc 4 1, 3) := by decide +kernel
theorem dX0_layListed_92 : decode cX0_layListed 92 = .ok (.goto (-89), 3) := by decide +kernel
theorem dX0_layListed_95 : decode cX0_layListed 95 = .ok (.return_, 1) := by decide +kernel
theorem dX0_layCell_0 : decode cX0_layCell 0 = .ok (.aload_n 1, 1) := by decide +kernel
theorem dX0_layCell_1 : decode cX0_layCell 1 = .ok (.iload_n 3, 1) := by decide +kernel
theorem dX0_layCell_2 : decode cX0_layCell 2 = .ok (.invokevirtual 44, 3) := by decide +kernel
theorem dX0_layCell_5 : decode cX0_layCell 5 = .ok (.lstore 4, 2) := by decide +kernel
theorem dX0_layCell_7 : decode cX0_layCell 7 = .ok (.aload_n 1, 1) := by decide +kernel
theorem dX0_layCell_8 : decode cX0_layCell 8 = .ok (.iload_n 3, 1) := by decide +kernel
theorem dX0_layCell_9 : decode cX0_layCell 9 = .ok (.invokevirtual 38, 3) := by decide +kernel
theorem dX0_layCell_12 : decode cX0_layCell 12 = .ok (.lstore 6, 2) := by decide +kernel
theorem dX0_layCell_14 : decode cX0_layCell 14 = .ok (.aload_n 0, 1) := by decide +kernel
theorem dX0_layCell_15 : decode cX0_layCell 15 = .ok (.getfield 21, 3) := by decide +kernel
theorem dX0_layCell_18 : decode cX0_layCell 18 = .ok (.iload_n 3, 1) := by decide +kernel
theorem dX0_layCell_19 : decode cX0_layCell 19 = .ok (.aload_n 2, 1) := by decide +kernel
theorem dX0_layCell_20 : decode cX0_layCell 20 = .ok (.getfield 58, 3) := by decide +kernel
theorem dX0_layCell_23 : decode cX0_layCell 23 = .ok (.iastore, 1) := by decide +kernel
theorem dX0_layCell_24 : decode cX0_layCell 24 = .ok (.lload 6, 2) := by decide +kernel
theorem dX0_layCell_26 : decode cX0_layCell 26 = .ok (.invokestatic 47, 3) := by decide +kernel
theorem dX0_layCell_29 : decode cX0_layCell 29 = .ok (.ifCond .ne 13, 3) := by decide +kernel
theorem dX0_layCell_32 : decode cX0_layCell 32 = .ok (.aload_n 2, 1) := by decide +kernel
theorem dX0_layCell_33 : decode cX0_layCell 33 = .ok (.iconst 1, 1) := by decide +kernel
theorem dX0_layCell_34 : decode cX0_layCell 34 = .ok (.lload 4, 2) := by decide +kernel
theorem dX0_layCell_36 : decode cX0_layCell 36 = .ok (.invokevirtual 61, 3) := by decide +kernel
theorem dX0_layCell_39 : decode cX0_layCell 39 = .ok (.pop, 1) := by decide +kernel
theorem dX0_layCell_40 : decode cX0_layCell 40 = .ok (.iconst (-1), 1) := by decide +kernel
theorem dX0_layCell_41 : decode cX0_layCell 41 = .ok (.ireturn, 1) := by decide +kernel
theorem dX0_layCell_42 : decode cX0_layCell 42 = .ok (.lload 6, 2) := by decide +kernel
theorem dX0_layCell_44 : decode cX0_layCell 44 = .ok (.invokestatic 47, 3) := by decide +kernel
theorem dX0_layCell_47 : decode cX0_layCell 47 = .ok (.iconst 2, 1) := by decide +kernel
theorem dX0_layCell_48 : decode cX0_layCell 48 = .ok (.if_icmp .ne 33, 3) := by decide +kernel
theorem dX0_layCell_51 : decode cX0_layCell 51 = .ok (.aload_n 1, 1) := by decide +kernel
theorem dX0_layCell_52 : decode cX0_layCell 52 = .ok (.lload 6, 2) := by decide +kernel
theorem dX0_layCell_54 : decode cX0_layCell 54 = .ok (.invokevirtual 51, 3) := by decide +kernel
theorem dX0_layCell_57 : decode cX0_layCell 57 = .ok (.istore 8, 2) := by decide +kernel
theorem dX0_layCell_59 : decode cX0_layCell 59 = .ok (.aload_n 0, 1) := by decide +kernel
theorem dX0_layCell_60 : decode cX0_layCell 60 = .ok (.getfield 21, 3) := by decide +kernel
theorem dX0_layCell_63 : decode cX0_layCell 63 = .ok (.iload 8, 2) := by decide +kernel
theorem dX0_layCell_65 : decode cX0_layCell 65 = .ok (.iaload, 1) := by decide +kernel
theorem dX0_layCell_66 : decode cX0_layCell 66 = .ok (.iconst (-1), 1) := by decide +kernel
theorem dX0_layCell_67 : decode cX0_layCell 67 = .ok (.if_icmp .ne 14, 3) := by decide +kernel
theorem dX0_layCell_70 : decode cX0_layCell 70 = .ok (.aload_n 2, 1) := by decide +kernel
theorem dX0_layCell_71 : decode cX0_layCell 71 = .ok (.iconst 0, 1) := by decide +kernel
theorem dX0_layCell_72 : decode cX0_layCell 72 = .ok (.lload 4, 2) := by decide +kernel
theorem dX0_layCell_74 : decode cX0_layCell 74 = .ok (.invokevirtual 61, 3) := by decide +kernel
theorem dX0_layCell_77 : decode cX0_layCell 77 = .ok (.pop, 1) := by decide +kernel
theorem dX0_layCell_78 : decode cX0_layCell 78 = .ok (.iload 8, 2) := by decide +kernel
theorem dX0_layCell_80 : decode cX0_layCell 80 = .ok (.ireturn, 1) := by decide +kernel
theorem dX0_layCell_81 : decode cX0_layCell 81 = .ok (.aload_n 2, 1) := by decide +kernel
theorem dX0_layCell_82 : decode cX0_layCell 82 = .ok (.lload 4, 2) := by decide +kernel
theorem dX0_layCell_84 : decode cX0_layCell 84 = .ok (.lload 6, 2) := by decide +kernel
theorem dX0_layCell_86 : decode cX0_layCell 86 = .ok (.invokevirtual 65, 3) := by decide +kernel
theorem dX0_layCell_89 : decode cX0_layCell 89 = .ok (.pop, 1) := by decide +kernel
theorem dX0_layCell_90 : decode cX0_layCell 90 = .ok (.iconst (-1), 1) := by decide +kernel
theorem dX0_layCell_91 : decode cX0_layCell 91 = .ok (.ireturn, 1) := by decide +kernel
theorem dX0_tellNewPlaces_0 : decode cX0_tellNewPlaces 0 = .ok (.iconst 0, 1) := by decide +kernel
theorem dX0_tellNewPlaces_1 : decode cX0_tellNewPlaces 1 = .ok (.istore 4, 2) := by decide +kernel
theorem dX0_tellNewPlaces_3 : decode cX0_tellNewPlaces 3 = .ok (.iload 4, 2) := by decide +kernel
theorem dX0_tellNewPlaces_5 : decode cX0_tellNewPlaces 5 = .ok (.aload_n 2, 1) := by decide +kernel
theorem dX0_tellNewPlaces_6 : decode cX0_tellNewPlaces 6 = .ok (.getfield 58, 3) := by decide +kernel
theorem dX0_tellNewPlaces_9 : decode cX0_tellNewPlaces 9 = .ok (.if_icmp .ge 26, 3) := by decide +kernel
theorem dX0_tellNewPlaces_12 : decode cX0_tellNewPlaces 12 = .ok (.aload_n 2, 1) := by decide +kernel
theorem dX0_tellNewPlaces_13 : decode cX0_tellNewPlaces 13 = .ok (.iload 4, 2) := by decide +kernel
theorem dX0_tellNewPlaces_15 : decode cX0_tellNewPlaces 15 = .ok (.aload_n 0, 1) := by decide +kernel
theorem dX0_tellNewPlaces_16 : decode cX0_tellNewPlaces 16 = .ok (.aload_n 1, 1) := by decide +kernel
theorem dX0_tellNewPlaces_17 : decode cX0_tellNewPlaces 17 = .ok (.aload_n 2, 1) := by decide +kernel
theorem dX0_tellNewPlaces_18 : decode cX0_tellNewPlaces 18 = .ok (.iload 4, 2) := by decide +kernel
theorem dX0_tellNewPlaces_20 : decode cX0_tellNewPlaces 20 = .ok (.invokevirtual 44, 3) := by decide +kernel
theorem dX0_tellNewPlaces_23 : decode cX0_tellNewPlaces 23 = .ok (.invokevirtual 69, 3) := by decide +kernel
theorem dX0_tellNewPlaces_26 : decode cX0_tellNewPlaces 26 = .ok (.invokevirtual 73, 3) := by decide +kernel
theorem dX0_tellNewPlaces_29 : decode cX0_tellNewPlaces 29 = .ok (.iinc 4 1, 3) := by decide +kernel
theorem dX0_tellNewPlaces_32 : decode cX0_tellNewPlaces 32 = .ok (.goto (-29), 3) := by decide +kernel
theorem dX0_tellNewPlaces_35 : decode cX0_tellNewPlaces 35 = .ok (.iconst 0, 1) := by decide +kernel
theorem dX0_tellNewPlaces_36 : decode cX0_tellNewPlaces 36 = .ok (.istore 4, 2) := by decide +kernel
theorem dX0_tellNewPlaces_38 : decode cX0_tellNewPlaces 38 = .ok (.iload 4, 2) := by decide +kernel
theorem dX0_tellNewPlaces_40 : decode cX0_tellNewPlaces 40 = .ok (.aload_n 3, 1) := by decide +kernel
theorem dX0_tellNewPlaces_41 : decode cX0_tellNewPlaces 41 = .ok (.arraylength, 1) := by decide +kernel
theorem dX0_tellNewPlaces_42 : decode cX0_tellNewPlaces 42 = .ok (.if_icmp .ge 22, 3) := by decide +kernel
theorem dX0_tellNewPlaces_45 : decode cX0_tellNewPlaces 45 = .ok (.aload_n 3, 1) := by decide +kernel
theorem dX0_tellNewPlaces_46 : decode cX0_tellNewPlaces 46 = .ok (.iload 4, 2) := by decide +kernel
theorem dX0_tellNewPlaces_48 : decode cX0_tellNewPlaces 48 = .ok (.aload_n 0, 1) := by decide +kernel
theorem dX0_tellNewPlaces_49 : decode cX0_tellNewPlaces 49 = .ok (.aload_n 1, 1) := by decide +kernel
theorem dX0_tellNewPlaces_50 : decode cX0_tellNewPlaces 50 = .ok (.aload_n 3, 1) := by decide +kernel
theorem dX0_tellNewPlaces_51 : decode cX0_tellNewPlaces 51 = .ok (.iload 4, 2) := by decide +kernel
theorem dX0_tellNewPlaces_53 : decode cX0_tellNewPlaces 53 = .ok (.laload, 1) := by decide +kernel
theorem dX0_tellNewPlaces_54 : decode cX0_tellNewPlaces 54 = .ok (.invokevirtual 69, 3) := by decide +kernel
theorem dX0_tellNewPlaces_57 : decode cX0_tellNewPlaces 57 = .ok (.lastore, 1) := by decide +kernel
theorem dX0_tellNewPlaces_58 : decode cX0_tellNewPlaces 58 = .ok (.iinc 4 1, 3) := by decide +kernel
theorem dX0_tellNewPlaces_61 : decode cX0_tellNewPlaces 61 = .ok (.goto (-23), 3) := by decide +kernel
theorem dX0_tellNewPlaces_64 : decode cX0_tellNewPlaces 64 = .ok (.return_, 1) := by decide +kernel
theorem dX0_inNewHalf_0 : decode cX0_inNewHalf 0 = .ok (.lload_n 2, 1) := by decide +kernel
theorem dX0_inNewHalf_1 : decode cX0_inNewHalf 1 = .ok (.invokestatic 47, 3) := by decide +kernel
theorem dX0_inNewHalf_4 : decode cX0_inNewHalf 4 = .ok (.iconst 2, 1) := by decide +kernel
theorem dX0_inNewHalf_5 : decode cX0_inNewHalf 5 = .ok (.if_icmp .eq 5, 3) := by decide +kernel
theorem dX0_inNewHalf_8 : decode cX0_inNewHalf 8 = .ok (.lload_n 2, 1) := by decide +kernel
theorem dX0_inNewHalf_9 : decode cX0_inNewHalf 9 = .ok (.lreturn, 1) := by decide +kernel
theorem dX0_inNewHalf_10 : decode cX0_inNewHalf 10 = .ok (.iconst 2, 1) := by decide +kernel
theorem dX0_inNewHalf_11 : decode cX0_inNewHalf 11 = .ok (.aload_n 0, 1) := by decide +kernel
theorem dX0_inNewHalf_12 : decode cX0_inNewHalf 12 = .ok (.getfield 21, 3) := by decide +kernel
theorem dX0_inNewHalf_15 : decode cX0_inNewHalf 15 = .ok (.aload_n 1, 1) := by decide +kernel
theorem dX0_inNewHalf_16 : decode cX0_inNewHalf 16 = .ok (.lload_n 2, 1) := by decide +kernel
theorem dX0_inNewHalf_17 : decode cX0_inNewHalf 17 = .ok (.invokevirtual 51, 3) := by decide +kernel
theorem dX0_inNewHalf_20 : decode cX0_inNewHalf 20 = .ok (.iaload, 1) := by decide +kernel
theorem dX0_inNewHalf_21 : decode cX0_inNewHalf 21 = .ok (.i2l, 1) := by decide +kernel
theorem dX0_inNewHalf_22 : decode cX0_inNewHalf 22 = .ok (.invokestatic 77, 3) := by decide +kernel
theorem dX0_inNewHalf_25 : decode cX0_inNewHalf 25 = .ok (.lreturn, 1) := by decide +kernel
theorem dX1_init_0 : decode cX1_init 0 = .ok (.aload_n 0, 1) := by decide +kernel
theorem dX1_init_1 : decode cX1_init 1 = .ok (.invokespecial 3, 3) := by decide +kernel
theorem dX1_init_4 : decode cX1_init 4 = .ok (.aload_n 0, 1) := by decide +kernel
theorem dX1_init_5 : decode cX1_init 5 = .ok (.bipush 120, 2) := by decide +kernel
theorem dX1_init_7 : decode cX1_init 7 = .ok (.newarray .int, 2) := by decide +kernel
theorem dX1_init_9 : decode cX1_init 9 = .ok (.putfield 9, 3) := by decide +kernel
theorem dX1_init_12 : decode cX1_init 12 = .ok (.aload_n 0, 1) := by decide +kernel
theorem dX1_init_13 : decode cX1_init 13 = .ok (.bipush 120, 2) := by decide +kernel
theorem dX1_init_15 : decode cX1_init 15 = .ok (.newarray .long, 2) := by decide +kernel
theorem dX1_init_17 : decode cX1_init 17 = .ok (.putfield 15, 3) := by decide +kernel
theorem dX1_init_20 : decode cX1_init 20 = .ok (.aload_n 0, 1) := by decide +kernel
theorem dX1_init_21 : decode cX1_init 21 = .ok (.iconst 0, 1) := by decide +kernel
theorem dX1_init_22 : decode cX1_init 22 = .ok (.putfield 19, 3) := by decide +kernel
theorem dX1_init_25 : decode cX1_init 25 = .ok (.return_, 1) := by decide +kernel
theorem dX1_clear_0 : decode cX1_clear 0 = .ok (.aload_n 0, 1) := by decide +kernel
theorem dX1_clear_1 : decode cX1_clear 1 = .ok (.iconst 0, 1) := by decide +kernel
theorem dX1_clear_2 : decode cX1_clear 2 = .ok (.putfield 19, 3) := by decide +kernel
theorem dX1_clear_5 : decode cX1_clear 5 = .ok (.return_, 1) := by decide +kernel
theorem dX1_wordsLeft_0 : decode cX1_wordsLeft 0 = .ok (.bipush 120, 2) := by decide +kernel
theorem dX1_wordsLeft_2 : decode cX1_wordsLeft 2 = .ok (.aload_n 0, 1) := by decide +kernel
theorem dX1_wordsLeft_3 : decode cX1_wordsLeft 3 = .ok (.getfield 19, 3) := by decide +kernel
theorem dX1_wordsLeft_6 : decode cX1_wordsLeft 6 = .ok (.isub, 1) := by decide +kernel
theorem dX1_wordsLeft_7 : decode cX1_wordsLeft 7 = .ok (.ireturn, 1) := by decide +kernel
theorem dX1_isUsed_0 : decode cX1_isUsed 0 = .ok (.iload_n 1, 1) := by decide +kernel
theorem dX1_isUsed_1 : decode cX1_isUsed 1 = .ok (.ifCond .lt 15, 3) := by decide +kernel
theorem dX1_isUsed_4 : decode cX1_isUsed 4 = .ok (.iload_n 1, 1) := by decide +kernel
theorem dX1_isUsed_5 : decode cX1_isUsed 5 = .ok (.aload_n 0, 1) := by decide +kernel
theorem dX1_isUsed_6 : decode cX1_isUsed 6 = .ok (.getfield 19, 3) := by decide +kernel
theorem dX1_isUsed_9 : decode cX1_isUsed 9 = .ok (.if_icmp .ge 7, 3) := by decide +kernel
theorem dX1_isUsed_12 : decode cX1_isUsed 12 = .ok (.iconst 1, 1) := by decide +kernel
theorem dX1_isUsed_13 : decode cX1_isUsed 13 = .ok (.goto 4, 3) := by decide +kernel
theorem dX1_isUsed_16 : decode cX1_isUsed 16 = .ok (.iconst 0, 1) := by decide +kernel
theorem dX1_isUsed_17 : decode cX1_isUsed 17 = .ok (.ireturn, 1) := by decide +kernel
theorem dX1_codeAt_0 : decode cX1_codeAt 0 = .ok (.iload_n 1, 1) := by decide +kernel
theorem dX1_codeAt_1 : decode cX1_codeAt 1 = .ok (.ifCond .lt 18, 3) := by decide +kernel
theorem dX1_codeAt_4 : decode cX1_codeAt 4 = .ok (.iload_n 1, 1) := by decide +kernel
theorem dX1_codeAt_5 : decode cX1_codeAt 5 = .ok (.bipush 120, 2) := by decide +kernel
theorem dX1_codeAt_7 : decode cX1_codeAt 7 = .ok (.if_icmp .ge 12, 3) := by decide +kernel
theorem dX1_codeAt_10 : decode cX1_codeAt 10 = .ok (.aload_n 0, 1) := by decide +kernel
theorem dX1_codeAt_11 : decode cX1_codeAt 11 = .ok (.getfield 9, 3) := by decide +kernel
theorem dX1_codeAt_14 : decode cX1_codeAt 14 = .ok (.iload_n 1, 1) := by decide +kernel
theorem dX1_codeAt_15 : decode cX1_codeAt 15 = .ok (.iaload, 1) := by decide +kernel
theorem dX1_codeAt_16 : decode cX1_codeAt 16 = .ok (.goto 4, 3) := by decide +kernel
theorem dX1_codeAt_19 : decode cX1_codeAt 19 = .ok (.iconst 1, 1) := by decide +kernel
theorem dX1_codeAt_20 : decode cX1_codeAt 20 = .ok (.ireturn, 1) := by decide +kernel
theorem dX1_contentAt_0 : decode cX1_contentAt 0 = .ok (.iload_n 1, 1) := by decide +kernel
theorem dX1_contentAt_1 : decode cX1_contentAt 1 = .ok (.ifCond .lt 18, 3) := by decide +kernel
theorem dX1_contentAt_4 : decode cX1_contentAt 4 = .ok (.iload_n 1, 1) := by decide +kernel
theorem dX1_contentAt_5 : decode cX1_contentAt 5 = .ok (.bipush 120, 2) := by decide +kernel
theorem dX1_contentAt_7 : decode cX1_contentAt 7 = .ok (.if_icmp .ge 12, 3) := by decide +kernel
theorem dX1_contentAt_10 : decode cX1_contentAt 10 = .ok (.aload_n 0, 1) := by decide +kernel
theorem dX1_contentAt_11 : decode cX1_contentAt 11 = .ok (.getfield 15, 3) := by decide +kernel
theorem dX1_contentAt_14 : decode cX1_contentAt 14 = .ok (.iload_n 1, 1) := by decide +kernel
theorem dX1_contentAt_15 : decode cX1_contentAt 15 = .ok (.laload, 1) := by decide +kernel
theorem dX1_contentAt_16 : decode cX1_contentAt 16 = .ok (.goto 4, 3) := by decide +kernel
theorem dX1_contentAt_19 : decode cX1_contentAt 19 = .ok (.lconst 0, 1) := by decide +kernel
theorem dX1_contentAt_20 : decode cX1_contentAt 20 = .ok (.lreturn, 1) := by decide +kernel
theorem dX1_setContent_0 : decode cX1_setContent 0 = .ok (.iload_n 1, 1) := by decide +kernel
theorem dX1_setContent_1 : decode cX1_setContent 1 = .ok (.ifCond .lt 16, 3) := by decide +kernel
theorem dX1_setContent_4 : decode cX1_setContent 4 = .ok (.iload_n 1, 1) := by decide +kernel
theorem dX1_setContent_5 : decode cX1_setContent 5 = .ok (.bipush 120, 2) := by decide +kernel
theorem dX1_setContent_7 : decode cX1_setContent 7 = .ok (.if_icmp .ge 10, 3) := by decide +kernel
theorem dX1_setContent_10 : decode cX1_setContent 10 = .ok (.aload_n 0, 1) := by decide +kernel
theorem dX1_setContent_11 : decode cX1_setContent 11 = .ok (.getfield 15, 3) := by decide +kernel
theorem dX1_setContent_14 : decode cX1_setContent 14 = .ok (.iload_n 1, 1) := by decide +kernel
theorem dX1_setContent_15 : decode cX1_setContent 15 = .ok (.lload_n 2, 1) := by decide +kernel
theorem dX1_setContent_16 : decode cX1_setContent 16 = .ok (.lastore, 1) := by decide +kernel
theorem dX1_setContent_17 : decode cX1_setContent 17 = .ok (.return_, 1) := by decide +kernel
theorem dX1_take_0 : decode cX1_take 0 = .ok (.aload_n 0, 1) := by decide +kernel
theorem dX1_take_1 : decode cX1_take 1 = .ok (.getfield 19, 3) := by decide +kernel
theorem dX1_take_4 : decode cX1_take 4 = .ok (.istore 4, 2) := by decide +kernel
theorem dX1_take_6 : decode cX1_take 6 = .ok (.iload 4, 2) := by decide +kernel
theorem dX1_take_8 : decode cX1_take 8 = .ok (.ifCond .lt 34, 3) := by decide +kernel
theorem dX1_take_11 : decode cX1_take 11 = .ok (.iload 4, 2) := by decide +kernel
theorem dX1_take_13 : decode cX1_take 13 = .ok (.bipush 120, 2) := by decide +kernel
theorem dX1_take_15 : decode cX1_take 15 = .ok (.if_icmp .ge 27, 3) := by decide +kernel
theorem dX1_take_18 : decode cX1_take 18 = .ok (.aload_n 0, 1) := by decide +kernel
theorem dX1_take_19 : decode cX1_take 19 = .ok (.getfield 9, 3) := by decide +kernel
theorem dX1_take_22 : decode cX1_take 22 = .ok (.iload 4, 2) := by decide +kernel
theorem dX1_take_24 : decode cX1_take 24 = .ok (.iload_n 1, 1) := by decide +kernel
theorem dX1_take_25 : decode cX1_take 25 = .ok (.iastore, 1) := by decide +kernel
theorem dX1_take_26 : decode cX1_take 26 = .ok (.aload_n 0, 1) := by decide +kernel
theorem dX1_take_27 : decode cX1_take 27 = .ok (.getfield 15, 3) := by decide +kernel
theorem dX1_take_30 : decode cX1_take 30 = .ok (.iload 4, 2) := by decide +kernel
theorem dX1_take_32 : decode cX1_take 32 = .ok (.lload_n 2, 1) := by decide +kernel
theorem dX1_take_33 : decode cX1_take 33 = .ok (.lastore, 1) := by decide +kernel
theorem dX1_take_34 : decode cX1_take 34 = .ok (.aload_n 0, 1) := by decide +kernel
theorem dX1_take_35 : decode cX1_take 35 = .ok (.iload 4, 2) := by decide +kernel
theorem dX1_take_37 : decode cX1_take 37 = .ok (.iconst 1, 1) := by decide +kernel
theorem dX1_take_38 : decode cX1_take 38 = .ok (.iadd, 1) := by decide +kernel
theorem dX1_take_39 : decode cX1_take 39 = .ok (.putfield 19, 3) := by decide +kernel
theorem dX1_take_42 : decode cX1_take 42 = .ok (.iload 4, 2) := by decide +kernel
theorem dX1_take_44 : decode cX1_take 44 = .ok (.ireturn, 1) := by decide +kernel
theorem dX1_takeTwo_0 : decode cX1_takeTwo 0 = .ok (.aload_n 0, 1) := by decide +kernel
theorem dX1_takeTwo_1 : decode cX1_takeTwo 1 = .ok (.iconst 2, 1) := by decide +kernel
theorem dX1_takeTwo_2 : decode cX1_takeTwo 2 = .ok (.lload_n 1, 1) := by decide +kernel
theorem dX1_takeTwo_3 : decode cX1_takeTwo 3 = .ok (.invokevirtual 23, 3) := by decide +kernel
theorem dX1_takeTwo_6 : decode cX1_takeTwo 6 = .ok (.istore 5, 2) := by decide +kernel
theorem dX1_takeTwo_8 : decode cX1_takeTwo 8 = .ok (.aload_n 0, 1) := by decide +kernel
theorem dX1_takeTwo_9 : decode cX1_takeTwo 9 = .ok (.iconst 3, 1) := by decide +kernel
theorem dX1_takeTwo_10 : decode cX1_takeTwo 10 = .ok (.lload_n 3, 1) := by decide +kernel
theorem dX1_takeTwo_11 : decode cX1_takeTwo 11 = .ok (.invokevirtual 23, 3) := by decide +kernel
theorem dX1_takeTwo_14 : decode cX1_takeTwo 14 = .ok (.pop, 1) := by decide +kernel
theorem dX1_takeTwo_15 : decode cX1_takeTwo 15 = .ok (.iload 5, 2) := by decide +kernel
theorem dX1_takeTwo_17 : decode cX1_takeTwo 17 = .ok (.ireturn, 1) := by decide +kernel
theorem dX1_cellOf_0 : decode cX1_cellOf 0 = .ok (.lload_n 1, 1) := by decide +kernel
theorem dX1_cellOf_1 : decode cX1_cellOf 1 = .ok (.invokestatic 27, 3) := by decide +kernel
theorem dX1_cellOf_4 : decode cX1_cellOf 4 = .ok (.istore_n 3, 1) := by decide +kernel
theorem dX1_cellOf_5 : decode cX1_cellOf 5 = .ok (.aload_n 0, 1) := by decide +kernel
theorem dX1_cellOf_6 : decode cX1_cellOf 6 = .ok (.iload_n 3, 1) := by decide +kernel
theorem dX1_cellOf_7 : decode cX1_cellOf 7 = .ok (.invokevirtual 31, 3) := by decide +kernel
theorem dX1_cellOf_10 : decode cX1_cellOf 10 = .ok (.lstore 4, 2) := by decide +kernel
theorem dX1_cellOf_12 : decode cX1_cellOf 12 = .ok (.lload 4, 2) := by decide +kernel
theorem dX1_cellOf_14 : decode cX1_cellOf 14 = .ok (.invokestatic 35, 3) := by decide +kernel
theorem dX1_cellOf_17 : decode cX1_cellOf 17 = .ok (.iconst 3, 1) := by decide +kernel
theorem dX1_cellOf_18 : decode cX1_cellOf 18 = .ok (.if_icmp .ne 11, 3) := by decide +kernel
theorem dX1_cellOf_21 : decode cX1_cellOf 21 = .ok (.lload 4, 2) := by decide +kernel
theorem dX1_cellOf_23 : decode cX1_cellOf 23 = .ok (.invokestatic 27, 3) := by decide +kernel
theorem dX1_cellOf_26 : decode cX1_cellOf 26 = .ok (.goto 4, 3) := by decide +kernel
theorem dX1_cellOf_29 : decode cX1_cellOf 29 = .ok (.iload_n 3, 1) := by decide +kernel
theorem dX1_cellOf_30 : decode cX1_cellOf 30 = .ok (.ireturn, 1) := by decide +kernel
theorem dX1_restOf_0 : decode cX1_restOf 0 = .ok (.aload_n 0, 1) := by decide +kernel
theorem dX1_restOf_1 : decode cX1_restOf 1 = .ok (.iload_n 1, 1) := by decide +kernel
theorem dX1_restOf_2 : decode cX1_restOf 2 = .ok (.invokevirtual 38, 3) := by decide +kernel
theorem dX1_restOf_5 : decode cX1_restOf 5 = .ok (.lookupswitch 44 #[(0, 27), (2, 36)], 27) := by decide +kernel
theorem dX1_restOf_32 : decode cX1_restOf 32 = .ok (.iconst 2, 1) := by decide +kernel
theorem dX1_restOf_33 : decode cX1_restOf 33 = .ok (.iload_n 1, 1) := by decide +kernel
theorem dX1_restOf_34 : decode cX1_restOf 34 = .ok (.iconst 1, 1) := by decide +kernel
theorem dX1_restOf_35 : decode cX1_restOf 35 = .ok (.iadd, 1) := by decide +kernel
theorem dX1_restOf_36 : decode cX1_restOf 36 = .ok (.i2l, 1) := by decide +kernel
theorem dX1_restOf_37 : decode cX1_restOf 37 = .ok (.invokestatic 42, 3) := by decide +kernel
theorem dX1_restOf_40 : decode cX1_restOf 40 = .ok (.lreturn, 1) := by decide +kernel
theorem dX1_restOf_41 : decode cX1_restOf 41 = .ok (.aload_n 0, 1) := by decide +kernel
theorem dX1_restOf_42 : decode cX1_restOf 42 = .ok (.iload_n 1, 1) := by decide +kernel
theorem dX1_restOf_43 : decode cX1_restOf 43 = .ok (.iconst 1, 1) := by decide +kernel
theorem dX1_restOf_44 : decode cX1_restOf 44 = .ok (.iadd, 1) := by decide +kernel
theorem dX1_restOf_45 : decode cX1_restOf 45 = .ok (.invokevirtual 31, 3) := by decide +kernel
theorem dX1_restOf_48 : decode cX1_restOf 48 = .ok (.lreturn, 1) := by decide +kernel
theorem dX1_restOf_49 : decode cX1_restOf 49 = .ok (.lconst 0, 1) := by decide +kernel
theorem dX1_restOf_50 : decode cX1_restOf 50 = .ok (.lreturn, 1) := by decide +kernel
theorem dX1_countMoved_0 : decode cX1_countMoved 0 = .ok (.iconst 0, 1) := by decide +kernel
theorem dX1_countMoved_1 : decode cX1_countMoved 1 = .ok (.istore_n 1, 1) := by decide +kernel
theorem dX1_countMoved_2 : decode cX1_countMoved 2 = .ok (.iconst 0, 1) := by decide +kernel
theorem dX1_countMoved_3 : decode cX1_countMoved 3 = .ok (.istore_n 2, 1) := by decide +kernel
theorem dX1_countMoved_4 : decode cX1_countMoved 4 = .ok (.iload_n 2, 1) := by decide +kernel
theorem dX1_countMoved_5 : decode cX1_countMoved 5 = .ok (.aload_n 0, 1) := by decide +kernel
theorem dX1_countMoved_6 : decode cX1_countMoved 6 = .ok (.getfield 19, 3) := by decide +kernel
theorem dX1_countMoved_9 : decode cX1_countMoved 9 = .ok (.if_icmp .ge 24, 3) := by decide +kernel
theorem dX1_countMoved_12 : decode cX1_countMoved 12 = .ok (.aload_n 0, 1) := by decide +kernel
theorem dX1_countMoved_13 : decode cX1_countMoved 13 = .ok (.iload_n 2, 1) := by decide +kernel
theorem dX1_countMoved_14 : decode cX1_countMoved 14 = .ok (.invokevirtual 31, 3) := by decide +kernel
theorem dX1_countMoved_17 : decode cX1_countMoved 17 = .ok (.invokestatic 35, 3) := by decide +kernel
theorem dX1_countMoved_20 : decode cX1_countMoved 20 = .ok (.iconst 3, 1) := by decide +kernel
theorem dX1_countMoved_21 : decode cX1_countMoved 21 = .ok (.if_icmp .ne 6, 3) := by decide +kernel
theorem dX1_countMoved_24 : decode cX1_countMoved 24 = .ok (.iinc 1 1, 3) := by decide +kernel
theorem dX1_countMoved_27 : decode cX1_countMoved 27 = .ok (.iinc 2 1, 3) := by decide +kernel
theorem dX1_countMoved_30 : decode cX1_countMoved 30 = .ok (.goto (-26), 3) := by decide +kernel
theorem dX1_countMoved_33 : decode cX1_countMoved 33 = .ok (.iload_n 1, 1) := by decide +kernel
theorem dX1_countMoved_34 : decode cX1_countMoved 34 = .ok (.ireturn, 1) := by decide +kernel
theorem dX2_init_0 : decode cX2_init 0 = .ok (.aload_n 0, 1) := by decide +kernel
theorem dX2_init_1 : decode cX2_init 1 = .ok (.invokespecial 3, 3) := by decide +kernel
theorem dX2_init_4 : decode cX2_init 4 = .ok (.aload_n 0, 1) := by decide +kernel
theorem dX2_init_5 : decode cX2_init 5 = .ok (.bipush 120, 2) := by decide +kernel
theorem dX2_init_7 : decode cX2_init 7 = .ok (.newarray .int, 2) := by decide +kernel
theorem dX2_init_9 : decode cX2_init 9 = .ok (.putfield 9, 3) := by decide +kernel
theorem dX2_init_12 : decode cX2_init 12 = .ok (.aload_n 0, 1) := by decide +kernel
theorem dX2_init_13 : decode cX2_init 13 = .ok (.bipush 120, 2) := by decide +kernel
theorem dX2_init_15 : decode cX2_init 15 = .ok (.newarray .int, 2) := by decide +kernel
theorem dX2_init_17 : decode cX2_init 17 = .ok (.putfield 15, 3) := by decide +kernel
theorem dX2_init_20 : decode cX2_init 20 = .ok (.aload_n 0, 1) := by decide +kernel
theorem dX2_init_21 : decode cX2_init 21 = .ok (.bipush 120, 2) := by decide +kernel
theorem dX2_init_23 : decode cX2_init 23 = .ok (.newarray .int, 2) := by decide +kernel
theorem dX2_init_25 : decode cX2_init 25 = .ok (.putfield 18, 3) := by decide +kernel
theorem dX2_init_28 : decode cX2_init 28 = .ok (.aload_n 0, 1) := by decide +kernel
theorem dX2_init_29 : decode cX2_init 29 = .ok (.iconst 0, 1) := by decide +kernel
theorem dX2_init_30 : decode cX2_init 30 = .ok (.putfield 21, 3) := by decide +kernel
theorem dX2_init_33 : decode cX2_init 33 = .ok (.return_, 1) := by decide +kernel
theorem dX2_canBeMade_0 : decode cX2_canBeMade 0 = .ok (.aload_n 0, 1) := by decide +kernel
theorem dX2_canBeMade_1 : decode cX2_canBeMade 1 = .ok (.iconst 0, 1) := by decide +kernel
theorem dX2_canBeMade_2 : decode cX2_canBeMade 2 = .ok (.putfield 21, 3) := by decide +kernel
theorem dX2_canBeMade_5 : decode cX2_canBeMade 5 = .ok (.aload_n 0, 1) := by decide +kernel
theorem dX2_canBeMade_6 : decode cX2_canBeMade 6 = .ok (.getfield 9, 3) := by decide +kernel
theorem dX2_canBeMade_9 : decode cX2_canBeMade 9 = .ok (.iconst (-1), 1) := by decide +kernel
theorem dX2_canBeMade_10 : decode cX2_canBeMade 10 = .ok (.invokestatic 25, 3) := by decide +kernel
theorem dX2_canBeMade_13 : decode cX2_canBeMade 13 = .ok (.aload_n 0, 1) := by decide +kernel
theorem dX2_canBeMade_14 : decode cX2_canBeMade 14 = .ok (.getfield 15, 3) := by decide +kernel
theorem dX2_canBeMade_17 : decode cX2_canBeMade 17 = .ok (.iconst (-1), 1) := by decide +kernel
theorem dX2_canBeMade_18 : decode cX2_canBeMade 18 = .ok (.invokestatic 25, 3) := by decide +kernel
theorem dX2_canBeMade_21 : decode cX2_canBeMade 21 = .ok (.aload_n 0, 1) := by decide +kernel
theorem dX2_canBeMade_22 : decode cX2_canBeMade 22 = .ok (.aload_n 1, 1) := by decide +kernel
theorem dX2_canBeMade_23 : decode cX2_canBeMade 23 = .ok (.lload_n 2, 1) := by decide +kernel
theorem dX2_canBeMade_24 : decode cX2_canBeMade 24 = .ok (.lload 4, 2) := by decide +kernel
theorem dX2_canBeMade_26 : decode cX2_canBeMade 26 = .ok (.invokevirtual 31, 3) := by decide +kernel
theorem dX2_canBeMade_29 : decode cX2_canBeMade 29 = .ok (.ifCond .ne 5, 3) := by decide +kernel
theorem dX2_canBeMade_32 : decode cX2_canBeMade 32 = .ok (.iconst 0, 1) := by decide +kernel
theorem dX2_canBeMade_33 : decode cX2_canBeMade 33 = .ok (.ireturn, 1) := by decide +kernel
theorem dX2_canBeMade_34 : decode cX2_canBeMade 34 = .ok (.iconst 0, 1) := by decide +kernel
theorem dX2_canBeMade_35 : decode cX2_canBeMade 35 = .ok (.istore 6, 2) := by decide +kernel
theorem dX2_canBeMade_37 : decode cX2_canBeMade 37 = .ok (.iload 6, 2) := by decide +kernel
theorem dX2_canBeMade_39 : decode cX2_canBeMade 39 = .ok (.aload_n 0, 1) := by decide +kernel
theorem dX2_canBeMade_40 : decode cX2_canBeMade 40 = .ok (.getfield 21, 3) := by decide +kernel
theorem dX2_canBeMade_43 : decode cX2_canBeMade 43 = .ok (.if_icmp .ge 76, 3) := by decide +kernel
theorem dX2_canBeMade_46 : decode cX2_canBeMade 46 = .ok (.iload 6, 2) := by decide +kernel
theorem dX2_canBeMade_48 : decode cX2_canBeMade 48 = .ok (.bipush 120, 2) := by decide +kernel
theorem dX2_canBeMade_50 : decode cX2_canBeMade 50 = .ok (.if_icmp .ge 69, 3) := by decide +kernel
theorem dX2_canBeMade_53 : decode cX2_canBeMade 53 = .ok (.aload_n 0, 1) := by decide +kernel
theorem dX2_canBeMade_54 : decode cX2_canBeMade 54 = .ok (.getfield 18, 3) := by decide +kernel
theorem dX2_canBeMade_57 : decode cX2_canBeMade 57 = .ok (.iload 6, 2) := by decide +kernel
theorem dX2_canBeMade_59 : decode cX2_canBeMade 59 = .ok (.iaload, 1) := by decide +kernel
theorem dX2_canBeMade_60 : decode cX2_canBeMade 60 = .ok (.istore 7, 2) := by decide +kernel
theorem dX2_canBeMade_62 : decode cX2_canBeMade 62 = .ok (.aload_n 0, 1) := by decide +kernel
theorem dX2_canBeMade_63 : decode cX2_canBeMade 63 = .ok (.getfield 9, 3) := by decide +kernel
theorem dX2_canBeMade_66 : decode cX2_canBeMade 66 = .ok (.iload 7, 2) := by decide +kernel
theorem dX2_canBeMade_68 : decode cX2_canBeMade 68 = .ok (.iaload, 1) := by decide +kernel
theorem dX2_canBeMade_69 : decode cX2_canBeMade 69 = .ok (.istore 8, 2) := by decide +kernel
theorem dX2_canBeMade_71 : decode cX2_canBeMade 71 = .ok (.aload_n 0, 1) := by decide +kernel
theorem dX2_canBeMade_72 : decode cX2_canBeMade 72 = .ok (.aload_n 1, 1) := by decide +kernel
theorem dX2_canBeMade_73 : decode cX2_canBeMade 73 = .ok (.aload_n 1, 1) := by decide +kernel
theorem dX2_canBeMade_74 : decode cX2_canBeMade 74 = .ok (.iload 7, 2) := by decide +kernel
theorem dX2_canBeMade_76 : decode cX2_canBeMade 76 = .ok (.invokevirtual 35, 3) := by decide +kernel
theorem dX2_canBeMade_79 : decode cX2_canBeMade 79 = .ok (.aload_n 1, 1) := by decide +kernel
theorem dX2_canBeMade_80 : decode cX2_canBeMade 80 = .ok (.iload 8, 2) := by decide +kernel
theorem dX2_canBeMade_82 : decode cX2_canBeMade 82 = .ok (.invokevirtual 35, 3) := by decide +kernel
theorem dX2_canBeMade_85 : decode cX2_canBeMade 85 = .ok (.invokevirtual 31, 3) := by decide +kernel
theorem dX2_canBeMade_88 : decode cX2_canBeMade 88 = .ok (.ifCond .eq 23, 3) := by decide +kernel
theorem dX2_canBeMade_91 : decode cX2_canBeMade 91 = .ok (.aload_n 0, 1) := by decide +kernel
theorem dX2_canBeMade_92 : decode cX2_canBeMade 92 = .ok (.aload_n 1, 1) := by decide +kernel
theorem dX2_canBeMade_93 : decode cX2_canBeMade 93 = .ok (.aload_n 1, 1) := by decide +kernel
theorem dX2_canBeMade_94 : decode cX2_canBeMade 94 = .ok (.iload 7, 2) := by decide +kernel
theorem dX2_canBeMade_96 : decode cX2_canBeMade 96 = .ok (.invokevirtual 41, 3) := by decide +kernel
theorem dX2_canBeMade_99 : decode cX2_canBeMade 99 = .ok (.aload_n 1, 1) := by decide +kernel
theorem dX2_canBeMade_100 : decode cX2_canBeMade 100 = .ok (.iload 8, 2) := by decide +kernel
theorem dX2_canBeMade_102 : decode cX2_canBeMade 102 = .ok (.invokevirtual 41, 3) := by decide +kernel
theorem dX2_canBeMade_105 : decode cX2_canBeMade 105 = .ok (.invokevirtual 31, 3) := by decide +kernel
theorem dX2_canBeMade_108 : decode cX2_canBeMade 108 = .ok (.ifCond .ne 5, 3) := by decide +kernel
theorem dX2_canBeMade_111 : decode cX2_canBeMade 111 = .ok (.iconst 0, 1) := by decide +kernel
theorem dX2_canBeMade_112 : decode cX2_canBeMade 112 = .ok (.ireturn, 1) := by decide +kernel
theorem dX2_canBeMade_113 : decode cX2_canBeMade 113 = .ok (.iinc 6 1, 3) := by decide +kernel
theorem dX2_canBeMade_116 : decode cX2_canBeMade 116 = .ok (.goto (-79), 3) := by decide +kernel
theorem dX2_canBeMade_119 : decode cX2_canBeMade 119 = .ok (.iconst 1, 1) := by decide +kernel
theorem dX2_canBeMade_120 : decode cX2_canBeMade 120 = .ok (.ireturn, 1) := by decide +kernel
theorem dX2_fit_0 : decode cX2_fit 0 = .ok (.lload_n 2, 1) := by decide +kernel
theorem dX2_fit_1 : decode cX2_fit 1 = .ok (.invokestatic 44, 3) := by decide +kernel
theorem dX2_fit_4 : decode cX2_fit 4 = .ok (.iconst 2, 1) := by decide +kernel
theorem dX2_fit_5 : decode cX2_fit 5 = .ok (.if_icmp .ne 12, 3) := by decide +kernel
theorem dX2_fit_8 : decode cX2_fit 8 = .ok (.lload 4, 2) := by decide +kernel
theorem dX2_fit_10 : decode cX2_fit 10 = .ok (.invokestatic 44, 3) := by decide +kernel
theorem dX2_fit_13 : decode cX2_fit 13 = .ok (.iconst 2, 1) := by decide +kernel
theorem dX2_fit_14 : decode cX2_fit 14 = .ok (.if_icmp .eq 16, 3) := by decide +kernel
theorem dX2_fit_17 : decode cX2_fit 17 = .ok (.lload_n 2, 1) := by decide +kernel
theorem dX2_fit_18 : decode cX2_fit 18 = .ok (.lload 4, 2) := by decide +kernel
theorem dX2_fit_20 : decode cX2_fit 20 = .ok (.lcmp, 1) := by decide +kernel
theorem dX2_fit_21 : decode cX2_fit 21 = .ok (.ifCond .ne 7, 3) := by decide +kernel
theorem dX2_fit_24 : decode cX2_fit 24 = .ok (.iconst 1, 1) := by decide +kernel
theorem dX2_fit_25 : decode cX2_fit 25 = .ok (.goto 4, 3) := by decide +kernel
theorem dX2_fit_28 : decode cX2_fit 28 = .ok (.iconst 0, 1) := by decide +kernel
theorem dX2_fit_29 : decode cX2_fit 29 = .ok (.ireturn, 1) := by decide +kernel
theorem dX2_fit_30 : decode cX2_fit 30 = .ok (.aload_n 1, 1) := by decide +kernel
theorem dX2_fit_31 : decode cX2_fit 31 = .ok (.lload_n 2, 1) := by decide +kernel
theorem dX2_fit_32 : decode cX2_fit 32 = .ok (.invokevirtual 48, 3) := by decide +kernel
theorem dX2_fit_35 : decode cX2_fit 35 = .ok (.istore 6, 2) := by decide +kernel
theorem dX2_fit_37 : decode cX2_fit 37 = .ok (.aload_n 1, 1) := by decide +kernel
theorem dX2_fit_38 : decode cX2_fit 38 = .ok (.lload 4, 2) := by decide +kernel
theorem dX2_fit_40 : decode cX2_fit 40 = .ok (.invokevirtual 48, 3) := by decide +kernel
theorem dX2_fit_43 : decode cX2_fit 43 = .ok (.istore 7, 2) := by decide +kernel
theorem dX2_fit_45 : decode cX2_fit 45 = .ok (.aload_n 0, 1) := by decide +kernel
theorem dX2_fit_46 : decode cX2_fit 46 = .ok (.getfield 9, 3) := by decide +kernel
theorem dX2_fit_49 : decode cX2_fit 49 = .ok (.iload 6, 2) := by decide +kernel
theorem dX2_fit_51 : decode cX2_fit 51 = .ok (.iaload, 1) := by decide +kernel
theorem dX2_fit_52 : decode cX2_fit 52 = .ok (.iconst (-1), 1) := by decide +kernel
theorem dX2_fit_53 : decode cX2_fit 53 = .ok (.if_icmp .ne 64, 3) := by decide +kernel
theorem dX2_fit_56 : decode cX2_fit 56 = .ok (.aload_n 0, 1) := by decide +kernel
theorem dX2_fit_57 : decode cX2_fit 57 = .ok (.getfield 15, 3) := by decide +kernel
theorem dX2_fit_60 : decode cX2_fit 60 = .ok (.iload 7, 2) := by decide +kernel
theorem dX2_fit_62 : decode cX2_fit 62 = .ok (.iaload, 1) := by decide +kernel
theorem dX2_fit_63 : decode cX2_fit 63 = .ok (.iconst (-1), 1) := by decide +kernel
theorem dX2_fit_64 : decode cX2_fit 64 = .ok (.if_icmp .ne 53, 3) := by decide +kernel
theorem dX2_fit_67 : decode cX2_fit 67 = .ok (.aload_n 0, 1) := by decide +kernel
theorem dX2_fit_68 : decode cX2_fit 68 = .ok (.getfield 21, 3) := by decide +kernel
theorem dX2_fit_71 : decode cX2_fit 71 = .ok (.bipush 120, 2) := by decide +kernel
theorem dX2_fit_73 : decode cX2_fit 73 = .ok (.if_icmp .ge 44, 3) := by decide +kernel
theorem dX2_fit_76 : decode cX2_fit 76 = .ok (.aload_n 0, 1) := by decide +kernel
theorem dX2_fit_77 : decode cX2_fit 77 = .ok (.getfield 9, 3) := by decide +kernel
theorem dX2_fit_80 : decode cX2_fit 80 = .ok (.iload 6, 2) := by decide +kernel
theorem dX2_fit_82 : decode cX2_fit 82 = .ok (.iload 7, 2) := by decide +kernel
theorem dX2_fit_84 : decode cX2_fit 84 = .ok (.iastore, 1) := by decide +kernel
theorem dX2_fit_85 : decode cX2_fit 85 = .ok (.aload_n 0, 1) := by decide +kernel
theorem dX2_fit_86 : decode cX2_fit 86 = .ok (.getfield 15, 3) := by decide +kernel
theorem dX2_fit_89 : decode cX2_fit 89 = .ok (.iload 7, 2) := by decide +kernel
theorem dX2_fit_91 : decode cX2_fit 91 = .ok (.iload 6, 2) := by decide +kernel
theorem dX2_fit_93 : decode cX2_fit 93 = .ok (.iastore, 1) := by decide +kernel
theorem dX2_fit_94 : decode cX2_fit 94 = .ok (.aload_n 0, 1) := by decide +kernel
theorem dX2_fit_95 : decode cX2_fit 95 = .ok (.getfield 18, 3) := by decide +kernel
theorem dX2_fit_98 : decode cX2_fit 98 = .ok (.aload_n 0, 1) := by decide +kernel
theorem dX2_fit_99 : decode cX2_fit 99 = .ok (.getfield 21, 3) := by decide +kernel
theorem dX2_fit_102 : decode cX2_fit 102 = .ok (.iload 6, 2) := by decide +kernel
theorem dX2_fit_104 : decode cX2_fit 104 = .ok (.iastore, 1) := by decide +kernel
theorem dX2_fit_105 : decode cX2_fit 105 = .ok (.aload_n 0, 1) := by decide +kernel
theorem dX2_fit_106 : decode cX2_fit 106 = .ok (.dup, 1) := by decide +kernel
theorem dX2_fit_107 : decode cX2_fit 107 = .ok (.getfield 21, 3) := by decide +kernel
theorem dX2_fit_110 : decode cX2_fit 110 = .ok (.iconst 1, 1) := by decide +kernel
theorem dX2_fit_111 : decode cX2_fit 111 = .ok (.iadd, 1) := by decide +kernel
theorem dX2_fit_112 : decode cX2_fit 112 = .ok (.putfield 21, 3) := by decide +kernel
theorem dX2_fit_115 : decode cX2_fit 115 = .ok (.iconst 1, 1) := by decide +kernel
theorem dX2_fit_116 : decode cX2_fit 116 = .ok (.ireturn, 1) := by decide +kernel
theorem dX2_fit_117 : decode cX2_fit 117 = .ok (.aload_n 0, 1) := by decide +kernel
theorem dX2_fit_118 : decode cX2_fit 118 = .ok (.getfield 9, 3) := by decide +kernel
theorem dX2_fit_121 : decode cX2_fit 121 = .ok (.iload 6, 2) := by decide +kernel
theorem dX2_fit_123 : decode cX2_fit 123 = .ok (.iaload, 1) := by decide +kernel
theorem dX2_fit_124 : decode cX2_fit 124 = .ok (.iload 7, 2) := by decide +kernel
theorem dX2_fit_126 : decode cX2_fit 126 = .ok (.if_icmp .ne 7, 3) := by decide +kernel
theorem dX2_fit_129 : decode cX2_fit 129 = .ok (.iconst 1, 1) := by decide +kernel
theorem dX2_fit_130 : decode cX2_fit 130 = .ok (.goto 4, 3) := by decide +kernel
theorem dX2_fit_133 : decode cX2_fit 133 = .ok (.iconst 0, 1) := by decide +kernel
theorem dX2_fit_134 : decode cX2_fit 134 = .ok (.ireturn, 1) := by decide +kernel
theorem dX3_init_0 : decode cX3_init 0 = .ok (.aload_n 0, 1) := by decide +kernel
theorem dX3_init_1 : decode cX3_init 1 = .ok (.invokespecial 3, 3) := by decide +kernel
theorem dX3_init_4 : decode cX3_init 4 = .ok (.aload_n 0, 1) := by decide +kernel
theorem dX3_init_5 : decode cX3_init 5 = .ok (.bipush 10, 2) := by decide +kernel
theorem dX3_init_7 : decode cX3_init 7 = .ok (.newarray .long, 2) := by decide +kernel
theorem dX3_init_9 : decode cX3_init 9 = .ok (.putfield 9, 3) := by decide +kernel
theorem dX3_init_12 : decode cX3_init 12 = .ok (.aload_n 0, 1) := by decide +kernel
theorem dX3_init_13 : decode cX3_init 13 = .ok (.new 13, 3) := by decide +kernel
theorem dX3_init_16 : decode cX3_init 16 = .ok (.dup, 1) := by decide +kernel
theorem dX3_init_17 : decode cX3_init 17 = .ok (.invokespecial 15, 3) := by decide +kernel
theorem dX3_init_20 : decode cX3_init 20 = .ok (.putfield 16, 3) := by decide +kernel
theorem dX3_init_23 : decode cX3_init 23 = .ok (.aload_n 0, 1) := by decide +kernel
theorem dX3_init_24 : decode cX3_init 24 = .ok (.new 20, 3) := by decide +kernel
theorem dX3_init_27 : decode cX3_init 27 = .ok (.dup, 1) := by decide +kernel
theorem dX3_init_28 : decode cX3_init 28 = .ok (.invokespecial 22, 3) := by decide +kernel
theorem dX3_init_31 : decode cX3_init 31 = .ok (.putfield 23, 3) := by decide +kernel
theorem dX3_init_34 : decode cX3_init 34 = .ok (.aload_n 0, 1) := by decide +kernel
theorem dX3_init_35 : decode cX3_init 35 = .ok (.bipush 120, 2) := by decide +kernel
theorem dX3_init_37 : decode cX3_init 37 = .ok (.newarray .int, 2) := by decide +kernel
theorem dX3_init_39 : decode cX3_init 39 = .ok (.putfield 27, 3) := by decide +kernel
theorem dX3_init_42 : decode cX3_init 42 = .ok (.aload_n 0, 1) := by decide +kernel
theorem dX3_init_43 : decode cX3_init 43 = .ok (.new 31, 3) := by decide +kernel
theorem dX3_init_46 : decode cX3_init 46 = .ok (.dup, 1) := by decide +kernel
theorem dX3_init_47 : decode cX3_init 47 = .ok (.invokespecial 33, 3) := by decide +kernel
theorem dX3_init_50 : decode cX3_init 50 = .ok (.putfield 34, 3) := by decide +kernel
theorem dX3_init_53 : decode cX3_init 53 = .ok (.aload_n 0, 1) := by decide +kernel
theorem dX3_init_54 : decode cX3_init 54 = .ok (.new 31, 3) := by decide +kernel
theorem dX3_init_57 : decode cX3_init 57 = .ok (.dup, 1) := by decide +kernel
theorem dX3_init_58 : decode cX3_init 58 = .ok (.invokespecial 33, 3) := by decide +kernel
theorem dX3_init_61 : decode cX3_init 61 = .ok (.putfield 38, 3) := by decide +kernel
theorem dX3_init_64 : decode cX3_init 64 = .ok (.aload_n 0, 1) := by decide +kernel
theorem dX3_init_65 : decode cX3_init 65 = .ok (.iconst 0, 1) := by decide +kernel
theorem dX3_init_66 : decode cX3_init 66 = .ok (.putfield 41, 3) := by decide +kernel
theorem dX3_init_69 : decode cX3_init 69 = .ok (.return_, 1) := by decide +kernel
theorem dX3_number_0 : decode cX3_number 0 = .ok (.iload_n 1, 1) := by decide +kernel
theorem dX3_number_1 : decode cX3_number 1 = .ok (.invokestatic 45, 3) := by decide +kernel
theorem dX3_number_4 : decode cX3_number 4 = .ok (.lload_n 2, 1) := by decide +kernel
theorem dX3_number_5 : decode cX3_number 5 = .ok (.ldc2_w 49, 3) := by decide +kernel
theorem dX3_number_8 : decode cX3_number 8 = .ok (.lcmp, 1) := by decide +kernel
theorem dX3_number_9 : decode cX3_number 9 = .ok (.ifCond .lt 11, 3) := by decide +kernel
theorem dX3_number_12 : decode cX3_number 12 = .ok (.lload_n 2, 1) := by decide +kernel
theorem dX3_number_13 : decode cX3_number 13 = .ok (.ldc2_w 51, 3) := by decide +kernel
theorem dX3_number_16 : decode cX3_number 16 = .ok (.lcmp, 1) := by decide +kernel
theorem dX3_number_17 : decode cX3_number 17 = .ok (.ifCond .le 13, 3) := by decide +kernel
theorem dX3_number_20 : decode cX3_number 20 = .ok (.new 53, 3) := by decide +kernel
theorem dX3_number_23 : decode cX3_number 23 = .ok (.dup, 1) := by decide +kernel
theorem dX3_number_24 : decode cX3_number 24 = .ok (.ldc 55, 2) := by decide +kernel
theorem dX3_number_26 : decode cX3_number 26 = .ok (.invokespecial 57, 3) := by decide +kernel
theorem dX3_number_29 : decode cX3_number 29 = .ok (.athrow, 1) := by decide +kernel
theorem dX3_number_30 : decode cX3_number 30 = .ok (.aload_n 0, 1) := by decide +kernel
theorem dX3_number_31 : decode cX3_number 31 = .ok (.getfield 9, 3) := by decide +kernel
theorem dX3_number_34 : decode cX3_number 34 = .ok (.iload_n 1, 1) := by decide +kernel
theorem dX3_number_35 : decode cX3_number 35 = .ok (.iconst 1, 1) := by decide +kernel
theorem dX3_number_36 : decode cX3_number 36 = .ok (.lload_n 2, 1) := by decide +kernel
theorem dX3_number_37 : decode cX3_number 37 = .ok (.invokestatic 60, 3) := by decide +kernel
theorem dX3_number_40 : decode cX3_number 40 = .ok (.lastore, 1) := by decide +kernel
theorem dX3_number_41 : decode cX3_number 41 = .ok (.return_, 1) := by decide +kernel
theorem dX3_drop_0 : decode cX3_drop 0 = .ok (.iload_n 1, 1) := by decide +kernel
theorem dX3_drop_1 : decode cX3_drop 1 = .ok (.invokestatic 45, 3) := by decide +kernel
theorem dX3_drop_4 : decode cX3_drop 4 = .ok (.aload_n 0, 1) := by decide +kernel
theorem dX3_drop_5 : decode cX3_drop 5 = .ok (.getfield 9, 3) := by decide +kernel
theorem dX3_drop_8 : decode cX3_drop 8 = .ok (.iload_n 1, 1) := by decide +kernel
theorem dX3_drop_9 : decode cX3_drop 9 = .ok (.lconst 0, 1) := by decide +kernel
theorem dX3_drop_10 : decode cX3_drop 10 = .ok (.lastore, 1) := by decide +kernel
theorem dX3_drop_11 : decode cX3_drop 11 = .ok (.return_, 1) := by decide +kernel
theorem dX3_copy_0 : decode cX3_copy 0 = .ok (.iload_n 1, 1) := by decide +kernel
theorem dX3_copy_1 : decode cX3_copy 1 = .ok (.iload_n 2, 1) := by decide +kernel
theorem dX3_copy_2 : decode cX3_copy 2 = .ok (.invokestatic 64, 3) := by decide +kernel
theorem dX3_copy_5 : decode cX3_copy 5 = .ok (.aload_n 0, 1) := by decide +kernel
theorem dX3_copy_6 : decode cX3_copy 6 = .ok (.getfield 9, 3) := by decide +kernel
theorem dX3_copy_9 : decode cX3_copy 9 = .ok (.iload_n 1, 1) := by decide +kernel
theorem dX3_copy_10 : decode cX3_copy 10 = .ok (.aload_n 0, 1) := by decide +kernel
theorem dX3_copy_11 : decode cX3_copy 11 = .ok (.getfield 9, 3) := by decide +kernel
theorem dX3_copy_14 : decode cX3_copy 14 = .ok (.iload_n 2, 1) := by decide +kernel
theorem dX3_copy_15 : decode cX3_copy 15 = .ok (.laload, 1) := by decide +kernel
theorem dX3_copy_16 : decode cX3_copy 16 = .ok (.lastore, 1) := by decide +kernel
theorem dX3_copy_17 : decode cX3_copy 17 = .ok (.return_, 1) := by decide +kernel
theorem dX3_cons_0 : decode cX3_cons 0 = .ok (.iload_n 1, 1) := by decide +kernel
theorem dX3_cons_1 : decode cX3_cons 1 = .ok (.iload_n 2, 1) := by decide +kernel
theorem dX3_cons_2 : decode cX3_cons 2 = .ok (.invokestatic 64, 3) := by decide +kernel
theorem dX3_cons_5 : decode cX3_cons 5 = .ok (.iload_n 3, 1) := by decide +kernel
theorem dX3_cons_6 : decode cX3_cons 6 = .ok (.invokestatic 45, 3) := by decide +kernel
theorem dX3_cons_9 : decode cX3_cons 9 = .ok (.aload_n 0, 1) := by decide +kernel
theorem dX3_cons_10 : decode cX3_cons 10 = .ok (.iconst 2, 1) := by decide +kernel
theorem dX3_cons_11 : decode cX3_cons 11 = .ok (.invokevirtual 68, 3) := by decide +kernel
theorem dX3_cons_14 : decode cX3_cons 14 = .ok (.aload_n 0, 1) := by decide +kernel
theorem dX3_cons_15 : decode cX3_cons 15 = .ok (.getfield 9, 3) := by decide +kernel
theorem dX3_cons_18 : decode cX3_cons 18 = .ok (.iload_n 1, 1) := by decide +kernel
theorem dX3_cons_19 : decode cX3_cons 19 = .ok (.iconst 2, 1) := by decide +kernel
theorem dX3_cons_20 : decode cX3_cons 20 = .ok (.aload_n 0, 1) := by decide +kernel
theorem dX3_cons_21 : decode cX3_cons 21 = .ok (.getfield 34, 3) := by decide +kernel
theorem dX3_cons_24 : decode cX3_cons 24 = .ok (.aload_n 0, 1) := by decide +kernel
theorem dX3_cons_25 : decode cX3_cons 25 = .ok (.getfield 9, 3) := by decide +kernel
theorem dX3_cons_28 : decode cX3_cons 28 = .ok (.iload_n 2, 1) := by decide +kernel
theorem dX3_cons_29 : decode cX3_cons 29 = .ok (.laload, 1) := by decide +kernel
theorem dX3_cons_30 : decode cX3_cons 30 = .ok (.aload_n 0, 1) := by decide +kernel
theorem dX3_cons_31 : decode cX3_cons 31 = .ok (.getfield 9, 3) := by decide +kernel
theorem dX3_cons_34 : decode cX3_cons 34 = .ok (.iload_n 3, 1) := by decide +kernel
theorem dX3_cons_35 : decode cX3_cons 35 = .ok (.laload, 1) := by decide +kernel
theorem dX3_cons_36 : decode cX3_cons 36 = .ok (.invokevirtual 71, 3) := by decide +kernel
theorem dX3_cons_39 : decode cX3_cons 39 = .ok (.i2l, 1) := by decide +kernel
theorem dX3_cons_40 : decode cX3_cons 40 = .ok (.invokestatic 60, 3) := by decide +kernel
theorem dX3_cons_43 : decode cX3_cons 43 = .ok (.lastore, 1) := by decide +kernel
theorem dX3_cons_44 : decode cX3_cons 44 = .ok (.return_, 1) := by decide +kernel
theorem dX3_list_0 : decode cX3_list 0 = .ok (.iload_n 1, 1) := by decide +kernel
theorem dX3_list_1 : decode cX3_list 1 = .ok (.iload_n 2, 1) := by decide +kernel
theorem dX3_list_2 : decode cX3_list 2 = .ok (.invokestatic 64, 3) := by decide +kernel
theorem dX3_list_5 : decode cX3_list 5 = .ok (.iload_n 3, 1) := by decide +kernel
theorem dX3_list_6 : decode cX3_list 6 = .ok (.iconst 1, 1) := by decide +kernel
theorem dX3_list_7 : decode cX3_list 7 = .ok (.if_icmp .lt 17, 3) := by decide +kernel
theorem dX3_list_10 : decode cX3_list 10 = .ok (.iload_n 3, 1) := by decide +kernel
theorem dX3_list_11 : decode cX3_list 11 = .ok (.bipush 10, 2) := by decide +kernel
theorem dX3_list_13 : decode cX3_list 13 = .ok (.if_icmp .gt 11, 3) := by decide +kernel
theorem dX3_list_16 : decode cX3_list 16 = .ok (.iload_n 3, 1) := by decide +kernel
theorem dX3_list_17 : decode cX3_list 17 = .ok (.bipush 10, 2) := by decide +kernel
theorem dX3_list_19 : decode cX3_list 19 = .ok (.iload_n 2, 1) := by decide +kernel
theorem dX3_list_20 : decode cX3_list 20 = .ok (.isub, 1) := by decide +kernel
theorem dX3_list_21 : decode cX3_list 21 = .ok (.if_icmp .le 13, 3) := by decide +kernel
theorem dX3_list_24 : decode cX3_list 24 = .ok (.new 53, 3) := by decide +kernel
theorem dX3_list_27 : decode cX3_list 27 = .ok (.dup, 1) := by decide +kernel
theorem dX3_list_28 : decode cX3_list 28 = .ok (.ldc 75, 2) := by decide +kernel
theorem dX3_list_30 : decode cX3_list 30 = .ok (.invokespecial 57, 3) := by decide +kernel
theorem dX3_list_33 : decode cX3_list 33 = .ok (.athrow, 1) := by decide +kernel
theorem dX3_list_34 : decode cX3_list 34 = .ok (.aload_n 0, 1) := by decide +kernel
theorem dX3_list_35 : decode cX3_list 35 = .ok (.iload_n 3, 1) := by decide +kernel
theorem dX3_list_36 : decode cX3_list 36 = .ok (.invokevirtual 68, 3) := by decide +kernel
theorem dX3_list_39 : decode cX3_list 39 = .ok (.aload_n 0, 1) := by decide +kernel
theorem dX3_list_40 : decode cX3_list 40 = .ok (.getfield 34, 3) := by decide +kernel
theorem dX3_list_43 : decode cX3_list 43 = .ok (.getfield 77, 3) := by decide +kernel
theorem dX3_list_46 : decode cX3_list 46 = .ok (.istore 4, 2) := by decide +kernel
theorem dX3_list_48 : decode cX3_list 48 = .ok (.iconst 0, 1) := by decide +kernel
theorem dX3_list_49 : decode cX3_list 49 = .ok (.istore 5, 2) := by decide +kernel
theorem dX3_list_51 : decode cX3_list 51 = .ok (.iload 5, 2) := by decide +kernel
theorem dX3_list_53 : decode cX3_list 53 = .ok (.iload_n 3, 1) := by decide +kernel
theorem dX3_list_54 : decode cX3_list 54 = .ok (.if_icmp .ge 39, 3) := by decide +kernel
theorem dX3_list_57 : decode cX3_list 57 = .ok (.aload_n 0, 1) := by decide +kernel
theorem dX3_list_58 : decode cX3_list 58 = .ok (.getfield 34, 3) := by decide +kernel
theorem dX3_list_61 : decode cX3_list 61 = .ok (.iload 5, 2) := by decide +kernel
theorem dX3_list_63 : decode cX3_list 63 = .ok (.iload_n 3, 1) := by decide +kernel
theorem dX3_list_64 : decode cX3_list 64 = .ok (.iconst 1, 1) := by decide +kernel
theorem dX3_list_65 : decode cX3_list 65 = .ok (.isub, 1) := by decide +kernel
theorem dX3_list_66 : decode cX3_list 66 = .ok (.if_icmp .ge 7, 3) := by decide +kernel
theorem dX3_list_69 : decode cX3_list 69 = .ok (.iconst 0, 1) := by decide +kernel
theorem dX3_list_70 : decode cX3_list 70 = .ok (.goto 4, 3) := by decide +kernel
theorem dX3_list_73 : decode cX3_list 73 = .ok (.iconst 1, 1) := by decide +kernel
theorem dX3_list_74 : decode cX3_list 74 = .ok (.aload_n 0, 1) := by decide +kernel
theorem dX3_list_75 : decode cX3_list 75 = .ok (.getfield 9, 3) := by decide +kernel
theorem dX3_list_78 : decode cX3_list 78 = .ok (.iload_n 2, 1) := by decide +kernel
theorem dX3_list_79 : decode cX3_list 79 = .ok (.iload 5, 2) := by decide +kernel
theorem dX3_list_81 : decode cX3_list 81 = .ok (.iadd, 1) := by decide +kernel
theorem dX3_list_82 : decode cX3_list 82 = .ok (.laload, 1) := by decide +kernel
theorem dX3_list_83 : decode cX3_list 83 = .ok (.invokevirtual 80, 3) := by decide +kernel
theorem dX3_list_86 : decode cX3_list 86 = .ok (.pop, 1) := by decide +kernel
theorem dX3_list_87 : decode cX3_list 87 = .ok (.iinc 5 1, 3) := by decide +kernel
theorem dX3_list_90 : decode cX3_list 90 = .ok (.goto (-39), 3) := by decide +kernel
theorem dX3_list_93 : decode cX3_list 93 = .ok (.aload_n 0, 1) := by decide +kernel
theorem dX3_list_94 : decode cX3_list 94 = .ok (.getfield 9, 3) := by decide +kernel
theorem dX3_list_97 : decode cX3_list 97 = .ok (.iload_n 1, 1) := by decide +kernel
theorem dX3_list_98 : decode cX3_list 98 = .ok (.iconst 2, 1) := by decide +kernel
theorem dX3_list_99 : decode cX3_list 99 = .ok (.iload 4, 2) := by decide +kernel
theorem dX3_list_101 : decode cX3_list 101 = .ok (.i2l, 1) := by decide +kernel
theorem dX3_list_102 : decode cX3_list 102 = .ok (.invokestatic 60, 3) := by decide +kernel
theorem dX3_list_105 : decode cX3_list 105 = .ok (.lastore, 1) := by decide +kernel
theorem dX3_list_106 : decode cX3_list 106 = .ok (.return_, 1) := by decide +kernel
theorem dX3_first_0 : decode cX3_first 0 = .ok (.iload_n 1, 1) := by decide +kernel
theorem dX3_first_1 : decode cX3_first 1 = .ok (.iload_n 2, 1) := by decide +kernel
theorem dX3_first_2 : decode cX3_first 2 = .ok (.invokestatic 64, 3) := by decide +kernel
theorem dX3_first_5 : decode cX3_first 5 = .ok (.aload_n 0, 1) := by decide +kernel
theorem dX3_first_6 : decode cX3_first 6 = .ok (.iload_n 2, 1) := by decide +kernel
theorem dX3_first_7 : decode cX3_first 7 = .ok (.invokevirtual 84, 3) := by decide +kernel
theorem dX3_first_10 : decode cX3_first 10 = .ok (.aload_n 0, 1) := by decide +kernel
theorem dX3_first_11 : decode cX3_first 11 = .ok (.getfield 9, 3) := by decide +kernel
theorem dX3_first_14 : decode cX3_first 14 = .ok (.iload_n 1, 1) := by decide +kernel
theorem dX3_first_15 : decode cX3_first 15 = .ok (.aload_n 0, 1) := by decide +kernel
theorem dX3_first_16 : decode cX3_first 16 = .ok (.getfield 34, 3) := by decide +kernel
theorem dX3_first_19 : decode cX3_first 19 = .ok (.aload_n 0, 1) := by decide +kernel
theorem dX3_first_20 : decode cX3_first 20 = .ok (.getfield 34, 3) := by decide +kernel
theorem dX3_first_23 : decode cX3_first 23 = .ok (.aload_n 0, 1) := by decide +kernel
theorem dX3_first_24 : decode cX3_first 24 = .ok (.getfield 9, 3) := by decide +kernel
theorem dX3_first_27 : decode cX3_first 27 = .ok (.iload_n 2, 1) := by decide +kernel
theorem dX3_first_28 : decode cX3_first 28 = .ok (.laload, 1) := by decide +kernel
theorem dX3_first_29 : decode cX3_first 29 = .ok (.invokevirtual 87, 3) := by decide +kernel
theorem dX3_first_32 : decode cX3_first 32 = .ok (.invokevirtual 91, 3) := by decide +kernel
theorem dX3_first_35 : decode cX3_first 35 = .ok (.lastore, 1) := by decide +kernel
theorem dX3_first_36 : decode cX3_first 36 = .ok (.return_, 1) := by decide +kernel
theorem dX3_rest_0 : decode cX3_rest 0 = .ok (.iload_n 1, 1) := by decide +kernel
theorem dX3_rest_1 : decode cX3_rest 1 = .ok (.iload_n 2, 1) := by decide +kernel
theorem dX3_rest_2 : decode cX3_rest 2 = .ok (.invokestatic 64, 3) := by decide +kernel
theorem dX3_rest_5 : decode cX3_rest 5 = .ok (.aload_n 0, 1) := by decide +kernel
theorem dX3_rest_6 : decode cX3_rest 6 = .ok (.iload_n 2, 1) := by decide +kernel
theorem dX3_rest_7 : decode cX3_rest 7 = .ok (.invokevirtual 84, 3) := by decide +kernel
theorem dX3_rest_10 : decode cX3_rest 10 = .ok (.aload_n 0, 1) := by decide +kernel
theorem dX3_rest_11 : decode cX3_rest 11 = .ok (.getfield 9, 3) := by decide +kernel
theorem dX3_rest_14 : decode cX3_rest 14 = .ok (.iload_n 1, 1) := by decide +kernel
theorem dX3_rest_15 : decode cX3_rest 15 = .ok (.aload_n 0, 1) := by decide +kernel
theorem dX3_rest_16 : decode cX3_rest 16 = .ok (.getfield 34, 3) := by decide +kernel
theorem dX3_rest_19 : decode cX3_rest 19 = .ok (.aload_n 0, 1) := by decide +kernel
theorem dX3_rest_20 : decode cX3_rest 20 = .ok (.getfield 34, 3) := by decide +kernel
theorem dX3_rest_23 : decode cX3_rest 23 = .ok (.aload_n 0, 1) := by decide +kernel
theorem dX3_rest_24 : decode cX3_rest 24 = .ok (.getfield 9, 3) := by decide +kernel
theorem dX3_rest_27 : decode cX3_rest 27 = .ok (.iload_n 2, 1) := by decide +kernel
theorem dX3_rest_28 : decode cX3_rest 28 = .ok (.laload, 1) := by decide +kernel
theorem dX3_rest_29 : decode cX3_rest 29 = .ok (.invokevirtual 87, 3) := by decide +kernel
theorem dX3_rest_32 : decode cX3_rest 32 = .ok (.invokevirtual 95, 3) := by decide +kernel
theorem dX3_rest_35 : decode cX3_rest 35 = .ok (.lastore, 1) := by decide +kernel
theorem dX3_rest_36 : decode cX3_rest 36 = .ok (.return_, 1) := by decide +kernel
theorem dX3_setFirst_0 : decode cX3_setFirst 0 = .ok (.iload_n 1, 1) := by decide +kernel
theorem dX3_setFirst_1 : decode cX3_setFirst 1 = .ok (.iload_n 2, 1) := by decide +kernel
theorem dX3_setFirst_2 : decode cX3_setFirst 2 = .ok (.invokestatic 64, 3) := by decide +kernel
theorem dX3_setFirst_5 : decode cX3_setFirst 5 = .ok (.aload_n 0, 1) := by decide +kernel
theorem dX3_setFirst_6 : decode cX3_setFirst 6 = .ok (.iload_n 1, 1) := by decide +kernel
theorem dX3_setFirst_7 : decode cX3_setFirst 7 = .ok (.invokevirtual 84, 3) := by decide +kernel
theorem dX3_setFirst_10 : decode cX3_setFirst 10 = .ok (.aload_n 0, 1) := by decide +kernel
theorem dX3_setFirst_11 : decode cX3_setFirst 11 = .ok (.getfield 34, 3) := by decide +kernel
theorem dX3_setFirst_14 : decode cX3_setFirst 14 = .ok (.aload_n 0, 1) := by decide +kernel
theorem dX3_setFirst_15 : decode cX3_setFirst 15 = .ok (.getfield 34, 3) := by decide +kernel
theorem dX3_setFirst_18 : decode cX3_setFirst 18 = .ok (.aload_n 0, 1) := by decide +kernel
theorem dX3_setFirst_19 : decode cX3_setFirst 19 = .ok (.getfield 9, 3) := by decide +kernel
theorem dX3_setFirst_22 : decode cX3_setFirst 22 = .ok (.iload_n 1, 1) := by decide +kernel
theorem dX3_setFirst_23 : decode cX3_setFirst 23 = .ok (.laload, 1) := by decide +kernel
theorem dX3_setFirst_24 : decode cX3_setFirst 24 = .ok (.invokevirtual 87, 3) := by decide +kernel
theorem dX3_setFirst_27 : decode cX3_setFirst 27 = .ok (.aload_n 0, 1) := by decide +kernel
theorem dX3_setFirst_28 : decode cX3_setFirst 28 = .ok (.getfield 9, 3) := by decide +kernel
theorem dX3_setFirst_31 : decode cX3_setFirst 31 = .ok (.iload_n 2, 1) := by decide +kernel
theorem dX3_setFirst_32 : decode cX3_setFirst 32 = .ok (.laload, 1) := by decide +kernel
theorem dX3_setFirst_33 : decode cX3_setFirst 33 = .ok (.invokevirtual 98, 3) := by decide +kernel
theorem dX3_setFirst_36 : decode cX3_setFirst 36 = .ok (.return_, 1) := by decide +kernel
theorem dX3_setRest_0 : decode cX3_setRest 0 = .ok (.iload_n 1, 1) := by decide +kernel
theorem dX3_setRest_1 : decode cX3_setRest 1 = .ok (.iload_n 2, 1) := by decide +kernel
theorem dX3_setRest_2 : decode cX3_setRest 2 = .ok (.invokestatic 64, 3) := by decide +kernel
theorem dX3_setRest_5 : decode cX3_setRest 5 = .ok (.aload_n 0, 1) := by decide +kernel
theorem dX3_setRest_6 : decode cX3_setRest 6 = .ok (.iload_n 1, 1) := by decide +kernel
theorem dX3_setRest_7 : decode cX3_setRest 7 = .ok (.invokevirtual 84, 3) := by decide +kernel
theorem dX3_setRest_10 : decode cX3_setRest 10 = .ok (.aload_n 0, 1) := by decide +kernel
theorem dX3_setRest_11 : decode cX3_setRest 11 = .ok (.getfield 34, 3) := by decide +kernel
theorem dX3_setRest_14 : decode cX3_setRest 14 = .ok (.aload_n 0, 1) := by decide +kernel
theorem dX3_setRest_15 : decode cX3_setRest 15 = .ok (.getfield 9, 3) := by decide +kernel
theorem dX3_setRest_18 : decode cX3_setRest 18 = .ok (.iload_n 1, 1) := by decide +kernel
theorem dX3_setRest_19 : decode cX3_setRest 19 = .ok (.laload, 1) := by decide +kernel
theorem dX3_setRest_20 : decode cX3_setRest 20 = .ok (.invokevirtual 87, 3) := by decide +kernel
theorem dX3_setRest_23 : decode cX3_setRest 23 = .ok (.istore_n 3, 1) := by decide +kernel
theorem dX3_setRest_24 : decode cX3_setRest 24 = .ok (.aload_n 0, 1) := by decide +kernel
theorem dX3_setRest_25 : decode cX3_setRest 25 = .ok (.aload_n 0, 1) := by decide +kernel
theorem dX3_setRest_26 : decode cX3_setRest 26 = .ok (.getfield 34, 3) := by decide +kernel
theorem dX3_setRest_29 : decode cX3_setRest 29 = .ok (.iload_n 3, 1) := by decide +kernel
theorem dX3_setRest_30 : decode cX3_setRest 30 = .ok (.invokevirtual 95, 3) := by decide +kernel
theorem dX3_setRest_33 : decode cX3_setRest 33 = .ok (.aload_n 0, 1) := by decide +kernel
theorem dX3_setRest_34 : decode cX3_setRest 34 = .ok (.getfield 9, 3) := by decide +kernel
theorem dX3_setRest_37 : decode cX3_setRest 37 = .ok (.iload_n 2, 1) := by decide +kernel
theorem dX3_setRest_38 : decode cX3_setRest 38 = .ok (.laload, 1) := by decide +kernel
theorem dX3_setRest_39 : decode cX3_setRest 39 = .ok (.invokevirtual 102, 3) := by decide +kernel
theorem dX3_setRest_42 : decode cX3_setRest 42 = .ok (.ifCond .eq 4, 3) := by decide +kernel
theorem dX3_setRest_45 : decode cX3_setRest 45 = .ok (.return_, 1) := by decide +kernel
theorem dX3_setRest_46 : decode cX3_setRest 46 = .ok (.aload_n 0, 1) := by decide +kernel
theorem dX3_setRest_47 : decode cX3_setRest 47 = .ok (.getfield 34, 3) := by decide +kernel
theorem dX3_setRest_50 : decode cX3_setRest 50 = .ok (.iload_n 3, 1) := by decide +kernel
theorem dX3_setRest_51 : decode cX3_setRest 51 = .ok (.invokevirtual 106, 3) := by decide +kernel
theorem dX3_setRest_54 : decode cX3_setRest 54 = .ok (.iconst 2, 1) := by decide +kernel
theorem dX3_setRest_55 : decode cX3_setRest 55 = .ok (.if_icmp .eq 22, 3) := by decide +kernel
theorem dX3_setRest_58 : decode cX3_setRest 58 = .ok (.aload_n 0, 1) := by decide +kernel
theorem dX3_setRest_59 : decode cX3_setRest 59 = .ok (.iconst 2, 1) := by decide +kernel
theorem dX3_setRest_60 : decode cX3_setRest 60 = .ok (.invokevirtual 68, 3) := by decide +kernel
theorem dX3_setRest_63 : decode cX3_setRest 63 = .ok (.aload_n 0, 1) := by decide +kernel
theorem dX3_setRest_64 : decode cX3_setRest 64 = .ok (.getfield 34, 3) := by decide +kernel
theorem dX3_setRest_67 : decode cX3_setRest 67 = .ok (.aload_n 0, 1) := by decide +kernel
theorem dX3_setRest_68 : decode cX3_setRest 68 = .ok (.getfield 9, 3) := by decide +kernel
theorem dX3_setRest_71 : decode cX3_setRest 71 = .ok (.iload_n 1, 1) := by decide +kernel
theorem dX3_setRest_72 : decode cX3_setRest 72 = .ok (.laload, 1) := by decide +kernel
theorem dX3_setRest_73 : decode cX3_setRest 73 = .ok (.invokevirtual 87, 3) := by decide +kernel
theorem dX3_setRest_76 : decode cX3_setRest 76 = .ok (.istore_n 3, 1) := by decide +kernel
theorem dX3_setRest_77 : decode cX3_setRest 77 = .ok (.aload_n 0, 1) := by decide +kernel
theorem dX3_setRest_78 : decode cX3_setRest 78 = .ok (.getfield 34, 3) := by decide +kernel
theorem dX3_setRest_81 : decode cX3_setRest 81 = .ok (.iload_n 3, 1) := by decide +kernel
theorem dX3_setRest_82 : decode cX3_setRest 82 = .ok (.invokevirtual 106, 3) := by decide +kernel
theorem dX3_setRest_85 : decode cX3_setRest 85 = .ok (.iconst 2, 1) := by decide +kernel
theorem dX3_setRest_86 : decode cX3_setRest 86 = .ok (.if_icmp .ne 22, 3) := by decide +kernel
theorem dX3_setRest_89 : decode cX3_setRest 89 = .ok (.aload_n 0, 1) := by decide +kernel
theorem dX3_setRest_90 : decode cX3_setRest 90 = .ok (.getfield 34, 3) := by decide +kernel
theorem dX3_setRest_93 : decode cX3_setRest 93 = .ok (.iload_n 3, 1) := by decide +kernel
theorem dX3_setRest_94 : decode cX3_setRest 94 = .ok (.iconst 1, 1) := by decide +kernel
theorem dX3_setRest_95 : decode cX3_setRest 95 = .ok (.iadd, 1) := by decide +kernel
theorem dX3_setRest_96 : decode cX3_setRest 96 = .ok (.aload_n 0, 1) := by decide +kernel
theorem dX3_setRest_97 : decode cX3_setRest 97 = .ok (.getfield 9, 3) := by decide +kernel
theorem dX3_setRest_100 : decode cX3_setRest 100 = .ok (.iload_n 2, 1) := by decide +kernel
theorem dX3_setRest_101 : decode cX3_setRest 101 = .ok (.laload, 1) := by decide +kernel
theorem dX3_setRest_102 : decode cX3_setRest 102 = .ok (.invokevirtual 98, 3) := by decide +kernel
theorem dX3_setRest_105 : decode cX3_setRest 105 = .ok (.goto 41, 3) := by decide +kernel
theorem dX3_setRest_108 : decode cX3_setRest 108 = .ok (.aload_n 0, 1) := by decide +kernel
theorem dX3_setRest_109 : decode cX3_setRest 109 = .ok (.getfield 34, 3) := by decide +kernel
theorem dX3_setRest_112 : decode cX3_setRest 112 = .ok (.aload_n 0, 1) := by decide +kernel
theorem dX3_setRest_113 : decode cX3_setRest 113 = .ok (.getfield 34, 3) := by decide +kernel
theorem dX3_setRest_116 : decode cX3_setRest 116 = .ok (.iload_n 3, 1) := by decide +kernel
theorem dX3_setRest_117 : decode cX3_setRest 117 = .ok (.invokevirtual 91, 3) := by decide +kernel
theorem dX3_setRest_120 : decode cX3_setRest 120 = .ok (.aload_n 0, 1) := by decide +kernel
theorem dX3_setRest_121 : decode cX3_setRest 121 = .ok (.getfield 9, 3) := by decide +kernel
theorem dX3_setRest_124 : decode cX3_setRest 124 = .ok (.iload_n 2, 1) := by decide +kernel
theorem dX3_setRest_125 : decode cX3_setRest 125 = .ok (.laload, 1) := by decide +kernel
theorem dX3_setRest_126 : decode cX3_setRest 126 = .ok (.invokevirtual 71, 3) := by decide +kernel
theorem dX3_setRest_129 : decode cX3_setRest 129 = .ok (.istore 4, 2) := by decide +kernel
theorem dX3_setRest_131 : decode cX3_setRest 131 = .ok (.aload_n 0, 1) := by decide +kernel
theorem dX3_setRest_132 : decode cX3_setRest 132 = .ok (.getfield 34, 3) := by decide +kernel
theorem dX3_setRest_135 : decode cX3_setRest 135 = .ok (.iload_n 3, 1) := by decide +kernel
theorem dX3_setRest_136 : decode cX3_setRest 136 = .ok (.iconst 3, 1) := by decide +kernel
theorem dX3_setRest_137 : decode cX3_setRest 137 = .ok (.iload 4, 2) := by decide +kernel
theorem dX3_setRest_139 : decode cX3_setRest 139 = .ok (.i2l, 1) := by decide +kernel
theorem dX3_setRest_140 : decode cX3_setRest 140 = .ok (.invokestatic 60, 3) := by decide +kernel
theorem dX3_setRest_143 : decode cX3_setRest 143 = .ok (.invokevirtual 98, 3) := by decide +kernel
theorem dX3_setRest_146 : decode cX3_setRest 146 = .ok (.return_, 1) := by decide +kernel
theorem dX3_append_0 : decode cX3_append 0 = .ok (.iload_n 1, 1) := by decide +kernel
theorem dX3_append_1 : decode cX3_append 1 = .ok (.iload_n 2, 1) := by decide +kernel
theorem dX3_append_2 : decode cX3_append 2 = .ok (.invokestatic 64, 3) := by decide +kernel
theorem dX3_append_5 : decode cX3_append 5 = .ok (.iload_n 3, 1) := by decide +kernel
theorem dX3_append_6 : decode cX3_append 6 = .ok (.invokestatic 45, 3) := by decide +kernel
theorem dX3_append_9 : decode cX3_append 9 = .ok (.aload_n 0, 1) := by decide +kernel
theorem dX3_append_10 : decode cX3_append 10 = .ok (.aload_n 0, 1) := by decide +kernel
theorem dX3_append_11 : decode cX3_append 11 = .ok (.getfield 9, 3) := by decide +kernel
theorem dX3_append_14 : decode cX3_append 14 = .ok (.iload_n 2, 1) := by decide +kernel
theorem dX3_append_15 : decode cX3_append 15 = .ok (.laload, 1) := by decide +kernel
theorem dX3_append_16 : decode cX3_append 16 = .ok (.invokevirtual 110, 3) := by decide +kernel
theorem dX3_append_19 : decode cX3_append 19 = .ok (.istore 4, 2) := by decide +kernel
theorem dX3_append_21 : decode cX3_append 21 = .ok (.iload 4, 2) := by decide +kernel
theorem dX3_append_23 : decode cX3_append 23 = .ok (.ifCond .ge 13, 3) := by decide +kernel
theorem dX3_append_26 : decode cX3_append 26 = .ok (.new 113, 3) := by decide +kernel
theorem dX3_append_29 : decode cX3_append 29 = .ok (.dup, 1) := by decide +kernel
theorem dX3_append_30 : decode cX3_append 30 = .ok (.ldc 115, 2) := by decide +kernel
theorem dX3_append_32 : decode cX3_append 32 = .ok (.invokespecial 117, 3) := by decide +kernel
theorem dX3_append_35 : decode cX3_append 35 = .ok (.athrow, 1) := by decide +kernel
theorem dX3_append_36 : decode cX3_append 36 = .ok (.iload 4, 2) := by decide +kernel
theorem dX3_append_38 : decode cX3_append 38 = .ok (.ifCond .ne 16, 3) := by decide +kernel
theorem dX3_append_41 : decode cX3_append 41 = .ok (.aload_n 0, 1) := by decide +kernel
theorem dX3_append_42 : decode cX3_append 42 = .ok (.getfield 9, 3) := by decide +kernel
theorem dX3_append_45 : decode cX3_append 45 = .ok (.iload_n 1, 1) := by decide +kernel
theorem dX3_append_46 : decode cX3_append 46 = .ok (.aload_n 0, 1) := by decide +kernel
theorem dX3_append_47 : decode cX3_append 47 = .ok (.getfield 9, 3) := by decide +kernel
theorem dX3_append_50 : decode cX3_append 50 = .ok (.iload_n 3, 1) := by decide +kernel
theorem dX3_append_51 : decode cX3_append 51 = .ok (.laload, 1) := by decide +kernel
theorem dX3_append_52 : decode cX3_append 52 = .ok (.lastore, 1) := by decide +kernel
theorem dX3_append_53 : decode cX3_append 53 = .ok (.return_, 1) := by decide +kernel
theorem dX3_append_54 : decode cX3_append 54 = .ok (.aload_n 0, 1) := by decide +kernel
theorem dX3_append_55 : decode cX3_append 55 = .ok (.aload_n 0, 1) := by decide +kernel
theorem dX3_append_56 : decode cX3_append 56 = .ok (.getfield 9, 3) := by decide +kernel
theorem dX3_append_59 : decode cX3_append 59 = .ok (.iload_n 3, 1) := by decide +kernel
theorem dX3_append_60 : decode cX3_append 60 = .ok (.laload, 1) := by decide +kernel
theorem dX3_append_61 : decode cX3_append 61 = .ok (.invokestatic 118, 3) := by decide +kernel
theorem dX3_append_64 : decode cX3_append 64 = .ok (.ifCond .ne 8, 3) := by decide +kernel
theorem dX3_append_67 : decode cX3_append 67 = .ok (.iload 4, 2) := by decide +kernel
theorem dX3_append_69 : decode cX3_append 69 = .ok (.goto 7, 3) := by decide +kernel
theorem dX3_append_72 : decode cX3_append 72 = .ok (.iload 4, 2) := by decide +kernel
theorem dX3_append_74 : decode cX3_append 74 = .ok (.iconst 1, 1) := by decide +kernel
theorem dX3_append_75 : decode cX3_append 75 = .ok (.iadd, 1) := by decide +kernel
theorem dX3_append_76 : decode cX3_append 76 = .ok (.invokevirtual 68, 3) := by decide +kernel
theorem dX3_append_79 : decode cX3_append 79 = .ok (.aload_n 0, 1) := by decide +kernel
theorem dX3_append_80 : decode cX3_append 80 = .ok (.getfield 34, 3) := by decide +kernel
theorem dX3_append_83 : decode cX3_append 83 = .ok (.getfield 77, 3) := by decide +kernel
theorem dX3_append_86 : decode cX3_append 86 = .ok (.istore 5, 2) := by decide +kernel
theorem dX3_append_88 : decode cX3_append 88 = .ok (.aload_n 0, 1) := by decide +kernel
theorem dX3_append_89 : decode cX3_append 89 = .ok (.aload_n 0, 1) := by decide +kernel
theorem dX3_append_90 : decode cX3_append 90 = .ok (.getfield 9, 3) := by decide +kernel
theorem dX3_append_93 : decode cX3_append 93 = .ok (.iload_n 2, 1) := by decide +kernel
theorem dX3_append_94 : decode cX3_append 94 = .ok (.laload, 1) := by decide +kernel
theorem dX3_append_95 : decode cX3_append 95 = .ok (.iload 4, 2) := by decide +kernel
theorem dX3_append_97 : decode cX3_append 97 = .ok (.aload_n 0, 1) := by decide +kernel
theorem dX3_append_98 : decode cX3_append 98 = .ok (.getfield 9, 3) := by decide +kernel
theorem dX3_append_101 : decode cX3_append 101 = .ok (.iload_n 3, 1) := by decide +kernel
theorem dX3_append_102 : decode cX3_append 102 = .ok (.laload, 1) := by decide +kernel
theorem dX3_append_103 : decode cX3_append 103 = .ok (.invokevirtual 121, 3) := by decide +kernel
theorem dX3_append_106 : decode cX3_append 106 = .ok (.aload_n 0, 1) := by decide +kernel
theorem dX3_append_107 : decode cX3_append 107 = .ok (.getfield 9, 3) := by decide +kernel
theorem dX3_append_110 : decode cX3_append 110 = .ok (.iload_n 1, 1) := by decide +kernel
theorem dX3_append_111 : decode cX3_append 111 = .ok (.iconst 2, 1) := by decide +kernel
theorem dX3_append_112 : decode cX3_append 112 = .ok (.iload 5, 2) := by decide +kernel
theorem dX3_append_114 : decode cX3_append 114 = .ok (.i2l, 1) := by decide +kernel
theorem dX3_append_115 : decode cX3_append 115 = .ok (.invokestatic 60, 3) := by decide +kernel
theorem dX3_append_118 : decode cX3_append 118 = .ok (.lastore, 1) := by decide +kernel
theorem dX3_append_119 : decode cX3_append 119 = .ok (.return_, 1) := by decide +kernel
theorem dX3_kind_0 : decode cX3_kind 0 = .ok (.iload_n 1, 1) := by decide +kernel
theorem dX3_kind_1 : decode cX3_kind 1 = .ok (.invokestatic 45, 3) := by decide +kernel
theorem dX3_kind_4 : decode cX3_kind 4 = .ok (.aload_n 0, 1) := by decide +kernel
theorem dX3_kind_5 : decode cX3_kind 5 = .ok (.getfield 9, 3) := by decide +kernel
theorem dX3_kind_8 : decode cX3_kind 8 = .ok (.iload_n 1, 1) := by decide +kernel
theorem dX3_kind_9 : decode cX3_kind 9 = .ok (.laload, 1) := by decide +kernel
theorem dX3_kind_10 : decode cX3_kind 10 = .ok (.invokestatic 118, 3) := by decide +kernel
theorem dX3_kind_13 : decode cX3_kind 13 = .ok (.ireturn, 1) := by decide +kernel
theorem dX3_value_0 : decode cX3_value 0 = .ok (.iload_n 1, 1) := by decide +kernel
theorem dX3_value_1 : decode cX3_value 1 = .ok (.invokestatic 45, 3) := by decide +kernel
theorem dX3_value_4 : decode cX3_value 4 = .ok (.aload_n 0, 1) := by decide +kernel
theorem dX3_value_5 : decode cX3_value 5 = .ok (.getfield 9, 3) := by decide +kernel
theorem dX3_value_8 : decode cX3_value 8 = .ok (.iload_n 1, 1) := by decide +kernel
theorem dX3_value_9 : decode cX3_value 9 = .ok (.laload, 1) := by decide +kernel
theorem dX3_value_10 : decode cX3_value 10 = .ok (.invokestatic 118, 3) := by decide +kernel
theorem dX3_value_13 : decode cX3_value 13 = .ok (.iconst 1, 1) := by decide +kernel
theorem dX3_value_14 : decode cX3_value 14 = .ok (.if_icmp .eq 13, 3) := by decide +kernel
theorem dX3_value_17 : decode cX3_value 17 = .ok (.new 113, 3) := by decide +kernel
theorem dX3_value_20 : decode cX3_value 20 = .ok (.dup, 1) := by decide +kernel
theorem dX3_value_21 : decode cX3_value 21 = .ok (.ldc 125, 2) := by decide +kernel
theorem dX3_value_23 : decode cX3_value 23 = .ok (.invokespecial 117, 3) := by decide +kernel
theorem dX3_value_26 : decode cX3_value 26 = .ok (.athrow, 1) := by decide +kernel
theorem dX3_value_27 : decode cX3_value 27 = .ok (.aload_n 0, 1) := by decide +kernel
theorem dX3_value_28 : decode cX3_value 28 = .ok (.getfield 9, 3) := by decide +kernel
theorem dX3_value_31 : decode cX3_value 31 = .ok (.iload_n 1, 1) := by decide +kernel
theorem dX3_value_32 : decode cX3_value 32 = .ok (.laload, 1) := by decide +kernel
theorem dX3_value_33 : decode cX3_value 33 = .ok (.invokestatic 127, 3) := by decide +kernel
theorem dX3_value_36 : decode cX3_value 36 = .ok (.lreturn, 1) := by decide +kernel
theorem dX3_same_0 : decode cX3_same 0 = .ok (.iload_n 1, 1) := by decide +kernel
theorem dX3_same_1 : decode cX3_same 1 = .ok (.iload_n 2, 1) := by decide +kernel
theorem dX3_same_2 : decode cX3_same 2 = .ok (.invokestatic 64, 3) := by decide +kernel
theorem dX3_same_5 : decode cX3_same 5 = .ok (.aload_n 0, 1) := by decide +kernel
theorem dX3_same_6 : decode cX3_same 6 = .ok (.aload_n 0, 1) := by decide +kernel
theorem dX3_same_7 : decode cX3_same 7 = .ok (.getfield 9, 3) := by decide +kernel
theorem dX3_same_10 : decode cX3_same 10 = .ok (.iload_n 1, 1) := by decide +kernel
theorem dX3_same_11 : decode cX3_same 11 = .ok (.laload, 1) := by decide +kernel
theorem dX3_same_12 : decode cX3_same 12 = .ok (.aload_n 0, 1) := by decide +kernel
theorem dX3_same_13 : decode cX3_same 13 = .ok (.getfield 9, 3) := by decide +kernel
theorem dX3_same_16 : decode cX3_same 16 = .ok (.iload_n 2, 1) := by decide +kernel
theorem dX3_same_17 : decode cX3_same 17 = .ok (.laload, 1) := by decide +kernel
theorem dX3_same_18 : decode cX3_same 18 = .ok (.invokevirtual 102, 3) := by decide +kernel
theorem dX3_same_21 : decode cX3_same 21 = .ok (.ireturn, 1) := by decide +kernel
theorem dX3_length_0 : decode cX3_length 0 = .ok (.iload_n 1, 1) := by decide +kernel
theorem dX3_length_1 : decode cX3_length 1 = .ok (.invokestatic 45, 3) := by decide +kernel
theorem dX3_length_4 : decode cX3_length 4 = .ok (.aload_n 0, 1) := by decide +kernel
theorem dX3_length_5 : decode cX3_length 5 = .ok (.aload_n 0, 1) := by decide +kernel
theorem dX3_length_6 : decode cX3_length 6 = .ok (.getfield 9, 3) := by decide +kernel
theorem dX3_length_9 : decode cX3_length 9 = .ok (.iload_n 1, 1) := by decide +kernel
theorem dX3_length_10 : decode cX3_length 10 = .ok (.laload, 1) := by decide +kernel
theorem dX3_length_11 : decode cX3_length 11 = .ok (.invokevirtual 110, 3) := by decide +kernel
theorem dX3_length_14 : decode cX3_length 14 = .ok (.ireturn, 1) := by decide +kernel
theorem dX3_words_0 : decode cX3_words 0 = .ok (.iload_n 1, 1) := by decide +kernel
theorem dX3_words_1 : decode cX3_words 1 = .ok (.invokestatic 45, 3) := by decide +kernel
theorem dX3_words_4 : decode cX3_words 4 = .ok (.aload_n 0, 1) := by decide +kernel
theorem dX3_words_5 : decode cX3_words 5 = .ok (.aload_n 0, 1) := by decide +kernel
theorem dX3_words_6 : decode cX3_words 6 = .ok (.getfield 9, 3) := by decide +kernel
theorem dX3_words_9 : decode cX3_words 9 = .ok (.iload_n 1, 1) := by decide +kernel
theorem dX3_words_10 : decode cX3_words 10 = .ok (.laload, 1) := by decide +kernel
theorem dX3_words_11 : decode cX3_words 11 = .ok (.invokevirtual 131, 3) := by decide +kernel
theorem dX3_words_14 : decode cX3_words 14 = .ok (.ireturn, 1) := by decide +kernel
theorem dX3_alike_0 : decode cX3_alike 0 = .ok (.iload_n 1, 1) := by decide +kernel
theorem dX3_alike_1 : decode cX3_alike 1 = .ok (.iload_n 2, 1) := by decide +kernel
theorem dX3_alike_2 : decode cX3_alike 2 = .ok (.invokestatic 64, 3) := by decide +kernel
theorem dX3_alike_5 : decode cX3_alike 5 = .ok (.aload_n 0, 1) := by decide +kernel
theorem dX3_alike_6 : decode cX3_alike 6 = .ok (.getfield 23, 3) := by decide +kernel
theorem dX3_alike_9 : decode cX3_alike 9 = .ok (.aload_n 0, 1) := by decide +kernel
theorem dX3_alike_10 : decode cX3_alike 10 = .ok (.getfield 34, 3) := by decide +kernel
theorem dX3_alike_13 : decode cX3_alike 13 = .ok (.aload_n 0, 1) := by decide +kernel
theorem dX3_alike_14 : decode cX3_alike 14 = .ok (.getfield 9, 3) := by decide +kernel
theorem dX3_alike_17 : decode cX3_alike 17 = .ok (.iload_n 1, 1) := by decide +kernel
theorem dX3_alike_18 : decode cX3_alike 18 = .ok (.laload, 1) := by decide +kernel
theorem dX3_alike_19 : decode cX3_alike 19 = .ok (.aload_n 0, 1) := by decide +kernel
theorem dX3_alike_20 : decode cX3_alike 20 = .ok (.getfield 9, 3) := by decide +kernel
theorem dX3_alike_23 : decode cX3_alike 23 = .ok (.iload_n 2, 1) := by decide +kernel
theorem dX3_alike_24 : decode cX3_alike 24 = .ok (.laload, 1) := by decide +kernel
theorem dX3_alike_25 : decode cX3_alike 25 = .ok (.invokevirtual 134, 3) := by decide +kernel
theorem dX3_alike_28 : decode cX3_alike 28 = .ok (.ireturn, 1) := by decide +kernel
theorem dX3_collect_0 : decode cX3_collect 0 = .ok (.aload_n 0, 1) := by decide +kernel
theorem dX3_collect_1 : decode cX3_collect 1 = .ok (.invokevirtual 138, 3) := by decide +kernel
theorem dX3_collect_4 : decode cX3_collect 4 = .ok (.aload_n 0, 1) := by decide +kernel
theorem dX3_collect_5 : decode cX3_collect 5 = .ok (.getfield 34, 3) := by decide +kernel
theorem dX3_collect_8 : decode cX3_collect 8 = .ok (.getfield 77, 3) := by decide +kernel
theorem dX3_collect_11 : decode cX3_collect 11 = .ok (.ireturn, 1) := by decide +kernel
theorem dX3_about_0 : decode cX3_about 0 = .ok (.iload_n 1, 1) := by decide +kernel
theorem dX3_about_1 : decode cX3_about 1 = .ok (.tableswitch 48 0 2 #[27, 35, 43], 27) := by decide +kernel
theorem dX3_about_28 : decode cX3_about 28 = .ok (.aload_n 0, 1) := by decide +kernel
theorem dX3_about_29 : decode cX3_about 29 = .ok (.getfield 34, 3) := by decide +kernel
theorem dX3_about_32 : decode cX3_about 32 = .ok (.getfield 77, 3) := by decide +kernel
theorem dX3_about_35 : decode cX3_about 35 = .ok (.ireturn, 1) := by decide +kernel
theorem dX3_about_36 : decode cX3_about 36 = .ok (.aload_n 0, 1) := by decide +kernel
theorem dX3_about_37 : decode cX3_about 37 = .ok (.getfield 34, 3) := by decide +kernel
theorem dX3_about_40 : decode cX3_about 40 = .ok (.invokevirtual 141, 3) := by decide +kernel
theorem dX3_about_43 : decode cX3_about 43 = .ok (.ireturn, 1) := by decide +kernel
theorem dX3_about_44 : decode cX3_about 44 = .ok (.aload_n 0, 1) := by decide +kernel
theorem dX3_about_45 : decode cX3_about 45 = .ok (.getfield 41, 3) := by decide +kernel
theorem dX3_about_48 : decode cX3_about 48 = .ok (.ireturn, 1) := by decide +kernel
theorem dX3_about_49 : decode cX3_about 49 = .ok (.iconst (-1), 1) := by decide +kernel
theorem dX3_about_50 : decode cX3_about 50 = .ok (.ireturn, 1) := by decide +kernel
theorem dX3_word_0 : decode cX3_word 0 = .ok (.aload_n 0, 1) := by decide +kernel
theorem dX3_word_1 : decode cX3_word 1 = .ok (.getfield 34, 3) := by decide +kernel
theorem dX3_word_4 : decode cX3_word 4 = .ok (.iload_n 1, 1) := by decide +kernel
theorem dX3_word_5 : decode cX3_word 5 = .ok (.invokevirtual 145, 3) := by decide +kernel
theorem dX3_word_8 : decode cX3_word 8 = .ok (.ifCond .ne 13, 3) := by decide +kernel
theorem dX3_word_11 : decode cX3_word 11 = .ok (.new 149, 3) := by decide +kernel
theorem dX3_word_14 : decode cX3_word 14 = .ok (.dup, 1) := by decide +kernel
theorem dX3_word_15 : decode cX3_word 15 = .ok (.ldc 151, 2) := by decide +kernel
theorem dX3_word_17 : decode cX3_word 17 = .ok (.invokespecial 153, 3) := by decide +kernel
theorem dX3_word_20 : decode cX3_word 20 = .ok (.athrow, 1) := by decide +kernel
theorem dX3_word_21 : decode cX3_word 21 = .ok (.iload_n 2, 1) := by decide +kernel
theorem dX3_word_22 : decode cX3_word 22 = .ok (.tableswitch 61 0 2 #[26, 36, 49], 26) := by decide +kernel
theorem dX3_word_48 : decode cX3_word 48 = .ok (.aload_n 0, 1) := by decide +kernel
theorem dX3_word_49 : decode cX3_word 49 = .ok (.getfield 34, 3) := by decide +kernel
theorem dX3_word_52 : decode cX3_word 52 = .ok (.iload_n 1, 1) := by decide +kernel
theorem dX3_word_53 : decode cX3_word 53 = .ok (.invokevirtual 106, 3) := by decide +kernel
theorem dX3_word_56 : decode cX3_word 56 = .ok (.i2l, 1) := by decide +kernel
theorem dX3_word_57 : decode cX3_word 57 = .ok (.lreturn, 1) := by decide +kernel
theorem dX3_word_58 : decode cX3_word 58 = .ok (.aload_n 0, 1) := by decide +kernel
theorem dX3_word_59 : decode cX3_word 59 = .ok (.getfield 34, 3) := by decide +kernel
theorem dX3_word_62 : decode cX3_word 62 = .ok (.iload_n 1, 1) := by decide +kernel
theorem dX3_word_63 : decode cX3_word 63 = .ok (.invokevirtual 91, 3) := by decide +kernel
theorem dX3_word_66 : decode cX3_word 66 = .ok (.invokestatic 118, 3) := by decide +kernel
theorem dX3_word_69 : decode cX3_word 69 = .ok (.i2l, 1) := by decide +kernel
theorem dX3_word_70 : decode cX3_word 70 = .ok (.lreturn, 1) := by decide +kernel
theorem dX3_word_71 : decode cX3_word 71 = .ok (.aload_n 0, 1) := by decide +kernel
theorem dX3_word_72 : decode cX3_word 72 = .ok (.getfield 34, 3) := by decide +kernel
theorem dX3_word_75 : decode cX3_word 75 = .ok (.iload_n 1, 1) := by decide +kernel
theorem dX3_word_76 : decode cX3_word 76 = .ok (.invokevirtual 91, 3) := by decide +kernel
theorem dX3_word_79 : decode cX3_word 79 = .ok (.invokestatic 127, 3) := by decide +kernel
theorem dX3_word_82 : decode cX3_word 82 = .ok (.lreturn, 1) := by decide +kernel
theorem dX3_word_83 : decode cX3_word 83 = .ok (.new 53, 3) := by decide +kernel
theorem dX3_word_86 : decode cX3_word 86 = .ok (.dup, 1) := by decide +kernel
theorem dX3_word_87 : decode cX3_word 87 = .ok (.ldc 154, 2) := by decide +kernel
theorem dX3_word_89 : decode cX3_word 89 = .ok (.invokespecial 57, 3) := by decide +kernel
theorem dX3_word_92 : decode cX3_word 92 = .ok (.athrow, 1) := by decide +kernel
theorem dX3_content_0 : decode cX3_content 0 = .ok (.lload_n 1, 1) := by decide +kernel
theorem dX3_content_1 : decode cX3_content 1 = .ok (.iconst 2, 1) := by decide +kernel
theorem dX3_content_2 : decode cX3_content 2 = .ok (.lshl, 1) := by decide +kernel
theorem dX3_content_3 : decode cX3_content 3 = .ok (.iload_n 0, 1) := by decide +kernel
theorem dX3_content_4 : decode cX3_content 4 = .ok (.i2l, 1) := by decide +kernel
theorem dX3_content_5 : decode cX3_content 5 = .ok (.lor, 1) := by decide +kernel
theorem dX3_content_6 : decode cX3_content 6 = .ok (.lreturn, 1) := by decide +kernel
theorem dX3_kindOf_0 : decode cX3_kindOf 0 = .ok (.lload_n 0, 1) := by decide +kernel
theorem dX3_kindOf_1 : decode cX3_kindOf 1 = .ok (.ldc2_w 156, 3) := by decide +kernel
theorem dX3_kindOf_4 : decode cX3_kindOf 4 = .ok (.land, 1) := by decide +kernel
theorem dX3_kindOf_5 : decode cX3_kindOf 5 = .ok (.l2i, 1) := by decide +kernel
theorem dX3_kindOf_6 : decode cX3_kindOf 6 = .ok (.ireturn, 1) := by decide +kernel
theorem dX3_bodyOf_0 : decode cX3_bodyOf 0 = .ok (.lload_n 0, 1) := by decide +kernel
theorem dX3_bodyOf_1 : decode cX3_bodyOf 1 = .ok (.iconst 2, 1) := by decide +kernel
theorem dX3_bodyOf_2 : decode cX3_bodyOf 2 = .ok (.lshr, 1) := by decide +kernel
theorem dX3_bodyOf_3 : decode cX3_bodyOf 3 = .ok (.lreturn, 1) := by decide +kernel
theorem dX3_placeOf_0 : decode cX3_placeOf 0 = .ok (.lload_n 0, 1) := by decide +kernel
theorem dX3_placeOf_1 : decode cX3_placeOf 1 = .ok (.iconst 2, 1) := by decide +kernel
theorem dX3_placeOf_2 : decode cX3_placeOf 2 = .ok (.lshr, 1) := by decide +kernel
theorem dX3_placeOf_3 : decode cX3_placeOf 3 = .ok (.lstore_n 2, 1) := by decide +kernel
theorem dX3_placeOf_4 : decode cX3_placeOf 4 = .ok (.lload_n 2, 1) := by decide +kernel
theorem dX3_placeOf_5 : decode cX3_placeOf 5 = .ok (.lconst 0, 1) := by decide +kernel
theorem dX3_placeOf_6 : decode cX3_placeOf 6 = .ok (.lcmp, 1) := by decide +kernel
theorem dX3_placeOf_7 : decode cX3_placeOf 7 = .ok (.ifCond .lt 16, 3) := by decide +kernel
theorem dX3_placeOf_10 : decode cX3_placeOf 10 = .ok (.lload_n 2, 1) := by decide +kernel
theorem dX3_placeOf_11 : decode cX3_placeOf 11 = .ok (.ldc2_w 158, 3) := by decide +kernel
theorem dX3_placeOf_14 : decode cX3_placeOf 14 = .ok (.lcmp, 1) := by decide +kernel
theorem dX3_placeOf_15 : decode cX3_placeOf 15 = .ok (.ifCond .ge 8, 3) := by decide +kernel
theorem dX3_placeOf_18 : decode cX3_placeOf 18 = .ok (.lload_n 2, 1) := by decide +kernel
theorem dX3_placeOf_19 : decode cX3_placeOf 19 = .ok (.l2i, 1) := by decide +kernel
theorem dX3_placeOf_20 : decode cX3_placeOf 20 = .ok (.goto 4, 3) := by decide +kernel
theorem dX3_placeOf_23 : decode cX3_placeOf 23 = .ok (.iconst 0, 1) := by decide +kernel
theorem dX3_placeOf_24 : decode cX3_placeOf 24 = .ok (.ireturn, 1) := by decide +kernel
theorem dX3_checkRoot_0 : decode cX3_checkRoot 0 = .ok (.iload_n 0, 1) := by decide +kernel
theorem dX3_checkRoot_1 : decode cX3_checkRoot 1 = .ok (.ifCond .lt 9, 3) := by decide +kernel
theorem dX3_checkRoot_4 : decode cX3_checkRoot 4 = .ok (.iload_n 0, 1) := by decide +kernel
theorem dX3_checkRoot_5 : decode cX3_checkRoot 5 = .ok (.bipush 10, 2) := by decide +kernel
theorem dX3_checkRoot_7 : decode cX3_checkRoot 7 = .ok (.if_icmp .lt 13, 3) := by decide +kernel
theorem dX3_checkRoot_10 : decode cX3_checkRoot 10 = .ok (.new 160, 3) := by decide +kernel
theorem dX3_checkRoot_13 : decode cX3_checkRoot 13 = .ok (.dup, 1) := by decide +kernel
theorem dX3_checkRoot_14 : decode cX3_checkRoot 14 = .ok (.ldc 162, 2) := by decide +kernel
theorem dX3_checkRoot_16 : decode cX3_checkRoot 16 = .ok (.invokespecial 164, 3) := by decide +kernel
theorem dX3_checkRoot_19 : decode cX3_checkRoot 19 = .ok (.athrow, 1) := by decide +kernel
theorem dX3_checkRoot_20 : decode cX3_checkRoot 20 = .ok (.return_, 1) := by decide +kernel
theorem dX3_checkRoots_0 : decode cX3_checkRoots 0 = .ok (.iload_n 0, 1) := by decide +kernel
theorem dX3_checkRoots_1 : decode cX3_checkRoots 1 = .ok (.invokestatic 45, 3) := by decide +kernel
theorem dX3_checkRoots_4 : decode cX3_checkRoots 4 = .ok (.iload_n 1, 1) := by decide +kernel
theorem dX3_checkRoots_5 : decode cX3_checkRoots 5 = .ok (.invokestatic 45, 3) := by decide +kernel
theorem dX3_checkRoots_8 : decode cX3_checkRoots 8 = .ok (.return_, 1) := by decide +kernel
theorem dX3_checkHoldsPair_0 : decode cX3_checkHoldsPair 0 = .ok (.aload_n 0, 1) := by decide +kernel
theorem dX3_checkHoldsPair_1 : decode cX3_checkHoldsPair 1 = .ok (.getfield 9, 3) := by decide +kernel
theorem dX3_checkHoldsPair_4 : decode cX3_checkHoldsPair 4 = .ok (.iload_n 1, 1) := by decide +kernel
theorem dX3_checkHoldsPair_5 : decode cX3_checkHoldsPair 5 = .ok (.laload, 1) := by decide +kernel
theorem dX3_checkHoldsPair_6 : decode cX3_checkHoldsPair 6 = .ok (.invokestatic 118, 3) := by decide +kernel
theorem dX3_checkHoldsPair_9 : decode cX3_checkHoldsPair 9 = .ok (.iconst 2, 1) := by decide +kernel
theorem dX3_checkHoldsPair_10 : decode cX3_checkHoldsPair 10 = .ok (.if_icmp .eq 13, 3) := by decide +kernel
theorem dX3_checkHoldsPair_13 : decode cX3_checkHoldsPair 13 = .ok (.new 113, 3) := by decide +kernel
theorem dX3_checkHoldsPair_16 : decode cX3_checkHoldsPair 16 = .ok (.dup, 1) := by decide +kernel
theorem dX3_checkHoldsPair_17 : decode cX3_checkHoldsPair 17 = .ok (.ldc 165, 2) := by decide +kernel
theorem dX3_checkHoldsPair_19 : decode cX3_checkHoldsPair 19 = .ok (.invokespecial 117, 3) := by decide +kernel
theorem dX3_checkHoldsPair_22 : decode cX3_checkHoldsPair 22 = .ok (.athrow, 1) := by decide +kernel
theorem dX3_checkHoldsPair_23 : decode cX3_checkHoldsPair 23 = .ok (.return_, 1) := by decide +kernel
theorem dX3_makeRoom_0 : decode cX3_makeRoom 0 = .ok (.iload_n 1, 1) := by decide +kernel
theorem dX3_makeRoom_1 : decode cX3_makeRoom 1 = .ok (.aload_n 0, 1) := by decide +kernel
theorem dX3_makeRoom_2 : decode cX3_makeRoom 2 = .ok (.getfield 34, 3) := by decide +kernel
theorem dX3_makeRoom_5 : decode cX3_makeRoom 5 = .ok (.invokevirtual 167, 3) := by decide +kernel
theorem dX3_makeRoom_8 : decode cX3_makeRoom 8 = .ok (.if_icmp .le 7, 3) := by decide +kernel
theorem dX3_makeRoom_11 : decode cX3_makeRoom 11 = .ok (.aload_n 0, 1) := by decide +kernel
theorem dX3_makeRoom_12 : decode cX3_makeRoom 12 = .ok (.invokevirtual 138, 3) := by decide +kernel
theorem dX3_makeRoom_15 : decode cX3_makeRoom 15 = .ok (.iload_n 1, 1) := by decide +kernel
theorem dX3_makeRoom_16 : decode cX3_makeRoom 16 = .ok (.aload_n 0, 1) := by decide +kernel
theorem dX3_makeRoom_17 : decode cX3_makeRoom 17 = .ok (.getfield 34, 3) := by decide +kernel
theorem dX3_makeRoom_20 : decode cX3_makeRoom 20 = .ok (.invokevirtual 167, 3) := by decide +kernel
theorem dX3_makeRoom_23 : decode cX3_makeRoom 23 = .ok (.if_icmp .le 13, 3) := by decide +kernel
theorem dX3_makeRoom_26 : decode cX3_makeRoom 26 = .ok (.new 170, 3) := by decide +kernel
theorem dX3_makeRoom_29 : decode cX3_makeRoom 29 = .ok (.dup, 1) := by decide +kernel
theorem dX3_makeRoom_30 : decode cX3_makeRoom 30 = .ok (.ldc 172, 2) := by decide +kernel
theorem dX3_makeRoom_32 : decode cX3_makeRoom 32 = .ok (.invokespecial 174, 3) := by decide +kernel
theorem dX3_makeRoom_35 : decode cX3_makeRoom 35 = .ok (.athrow, 1) := by decide +kernel
theorem dX3_makeRoom_36 : decode cX3_makeRoom 36 = .ok (.return_, 1) := by decide +kernel
theorem dX3_makeCollection_0 : decode cX3_makeCollection 0 = .ok (.aload_n 0, 1) := by decide +kernel
theorem dX3_makeCollection_1 : decode cX3_makeCollection 1 = .ok (.getfield 38, 3) := by decide +kernel
theorem dX3_makeCollection_4 : decode cX3_makeCollection 4 = .ok (.invokevirtual 175, 3) := by decide +kernel
theorem dX3_makeCollection_7 : decode cX3_makeCollection 7 = .ok (.aload_n 0, 1) := by decide +kernel
theorem dX3_makeCollection_8 : decode cX3_makeCollection 8 = .ok (.getfield 16, 3) := by decide +kernel
theorem dX3_makeCollection_11 : decode cX3_makeCollection 11 = .ok (.aload_n 0, 1) := by decide +kernel
theorem dX3_makeCollection_12 : decode cX3_makeCollection 12 = .ok (.getfield 34, 3) := by decide +kernel
theorem dX3_makeCollection_15 : decode cX3_makeCollection 15 = .ok (.aload_n 0, 1) := by decide +kernel
theorem dX3_makeCollection_16 : decode cX3_makeCollection 16 = .ok (.getfield 9, 3) := by decide +kernel
theorem dX3_makeCollection_19 : decode cX3_makeCollection 19 = .ok (.invokevirtual 178, 3) := by decide +kernel
theorem dX3_makeCollection_22 : decode cX3_makeCollection 22 = .ok (.aload_n 0, 1) := by decide +kernel
theorem dX3_makeCollection_23 : decode cX3_makeCollection 23 = .ok (.getfield 16, 3) := by decide +kernel
theorem dX3_makeCollection_26 : decode cX3_makeCollection 26 = .ok (.aload_n 0, 1) := by decide +kernel
theorem dX3_makeCollection_27 : decode cX3_makeCollection 27 = .ok (.getfield 34, 3) := by decide +kernel
theorem dX3_makeCollection_30 : decode cX3_makeCollection 30 = .ok (.aload_n 0, 1) := by decide +kernel
theorem dX3_makeCollection_31 : decode cX3_makeCollection 31 = .ok (.getfield 38, 3) := by decide +kernel
theorem dX3_makeCollection_34 : decode cX3_makeCollection 34 = .ok (.iconst 1, 1) := by decide +kernel
theorem dX3_makeCollection_35 : decode cX3_makeCollection 35 = .ok (.invokevirtual 182, 3) := by decide +kernel
theorem dX3_makeCollection_38 : decode cX3_makeCollection 38 = .ok (.aload_n 0, 1) := by decide +kernel
theorem dX3_makeCollection_39 : decode cX3_makeCollection 39 = .ok (.getfield 16, 3) := by decide +kernel
theorem dX3_makeCollection_42 : decode cX3_makeCollection 42 = .ok (.aload_n 0, 1) := by decide +kernel
theorem dX3_makeCollection_43 : decode cX3_makeCollection 43 = .ok (.getfield 34, 3) := by decide +kernel
theorem dX3_makeCollection_46 : decode cX3_makeCollection 46 = .ok (.aload_n 0, 1) := by decide +kernel
theorem dX3_makeCollection_47 : decode cX3_makeCollection 47 = .ok (.getfield 38, 3) := by decide +kernel
theorem dX3_makeCollection_50 : decode cX3_makeCollection 50 = .ok (.iconst 0, 1) := by decide +kernel
theorem dX3_makeCollection_51 : decode cX3_makeCollection 51 = .ok (.invokevirtual 182, 3) := by decide +kernel
theorem dX3_makeCollection_54 : decode cX3_makeCollection 54 = .ok (.aload_n 0, 1) := by decide +kernel
theorem dX3_makeCollection_55 : decode cX3_makeCollection 55 = .ok (.getfield 16, 3) := by decide +kernel
theorem dX3_makeCollection_58 : decode cX3_makeCollection 58 = .ok (.aload_n 0, 1) := by decide +kernel
theorem dX3_makeCollection_59 : decode cX3_makeCollection 59 = .ok (.getfield 34, 3) := by decide +kernel
theorem dX3_makeCollection_62 : decode cX3_makeCollection 62 = .ok (.aload_n 0, 1) := by decide +kernel
theorem dX3_makeCollection_63 : decode cX3_makeCollection 63 = .ok (.getfield 38, 3) := by decide +kernel
theorem dX3_makeCollection_66 : decode cX3_makeCollection 66 = .ok (.aload_n 0, 1) := by decide +kernel
theorem dX3_makeCollection_67 : decode cX3_makeCollection 67 = .ok (.getfield 9, 3) := by decide +kernel
theorem dX3_makeCollection_70 : decode cX3_makeCollection 70 = .ok (.invokevirtual 186, 3) := by decide +kernel
theorem dX3_makeCollection_73 : decode cX3_makeCollection 73 = .ok (.aload_n 0, 1) := by decide +kernel
theorem dX3_makeCollection_74 : decode cX3_makeCollection 74 = .ok (.getfield 34, 3) := by decide +kernel
theorem dX3_makeCollection_77 : decode cX3_makeCollection 77 = .ok (.astore_n 1, 1) := by decide +kernel
theorem dX3_makeCollection_78 : decode cX3_makeCollection 78 = .ok (.aload_n 0, 1) := by decide +kernel
theorem dX3_makeCollection_79 : decode cX3_makeCollection 79 = .ok (.aload_n 0, 1) := by decide +kernel
theorem dX3_makeCollection_80 : decode cX3_makeCollection 80 = .ok (.getfield 38, 3) := by decide +kernel
theorem dX3_makeCollection_83 : decode cX3_makeCollection 83 = .ok (.putfield 34, 3) := by decide +kernel
theorem dX3_makeCollection_86 : decode cX3_makeCollection 86 = .ok (.aload_n 0, 1) := by decide +kernel
theorem dX3_makeCollection_87 : decode cX3_makeCollection 87 = .ok (.aload_n 1, 1) := by decide +kernel
theorem dX3_makeCollection_88 : decode cX3_makeCollection 88 = .ok (.putfield 38, 3) := by decide +kernel
theorem dX3_makeCollection_91 : decode cX3_makeCollection 91 = .ok (.aload_n 0, 1) := by decide +kernel
theorem dX3_makeCollection_92 : decode cX3_makeCollection 92 = .ok (.dup, 1) := by decide +kernel
theorem dX3_makeCollection_93 : decode cX3_makeCollection 93 = .ok (.getfield 41, 3) := by decide +kernel
theorem dX3_makeCollection_96 : decode cX3_makeCollection 96 = .ok (.iconst 1, 1) := by decide +kernel
theorem dX3_makeCollection_97 : decode cX3_makeCollection 97 = .ok (.iadd, 1) := by decide +kernel
theorem dX3_makeCollection_98 : decode cX3_makeCollection 98 = .ok (.putfield 41, 3) := by decide +kernel
theorem dX3_makeCollection_101 : decode cX3_makeCollection 101 = .ok (.return_, 1) := by decide +kernel
theorem dX3_isSame_0 : decode cX3_isSame 0 = .ok (.lload_n 1, 1) := by decide +kernel
theorem dX3_isSame_1 : decode cX3_isSame 1 = .ok (.invokestatic 118, 3) := by decide +kernel
theorem dX3_isSame_4 : decode cX3_isSame 4 = .ok (.iconst 2, 1) := by decide +kernel
theorem dX3_isSame_5 : decode cX3_isSame 5 = .ok (.if_icmp .ne 36, 3) := by decide +kernel
theorem dX3_isSame_8 : decode cX3_isSame 8 = .ok (.lload_n 3, 1) := by decide +kernel
theorem dX3_isSame_9 : decode cX3_isSame 9 = .ok (.invokestatic 118, 3) := by decide +kernel
theorem dX3_isSame_12 : decode cX3_isSame 12 = .ok (.iconst 2, 1) := by decide +kernel
theorem dX3_isSame_13 : decode cX3_isSame 13 = .ok (.if_icmp .ne 28, 3) := by decide +kernel
theorem dX3_isSame_16 : decode cX3_isSame 16 = .ok (.aload_n 0, 1) := by decide +kernel
theorem dX3_isSame_17 : decode cX3_isSame 17 = .ok (.getfield 34, 3) := by decide +kernel
theorem dX3_isSame_20 : decode cX3_isSame 20 = .ok (.lload_n 1, 1) := by decide +kernel
theorem dX3_isSame_21 : decode cX3_isSame 21 = .ok (.invokevirtual 87, 3) := by decide +kernel
theorem dX3_isSame_24 : decode cX3_isSame 24 = .ok (.aload_n 0, 1) := by decide +kernel
theorem dX3_isSame_25 : decode cX3_isSame 25 = .ok (.getfield 34, 3) := by decide +kernel
theorem dX3_isSame_28 : decode cX3_isSame 28 = .ok (.lload_n 3, 1) := by decide +kernel
theorem dX3_isSame_29 : decode cX3_isSame 29 = .ok (.invokevirtual 87, 3) := by decide +kernel
theorem dX3_isSame_32 : decode cX3_isSame 32 = .ok (.if_icmp .ne 7, 3) := by decide +kernel
theorem dX3_isSame_35 : decode cX3_isSame 35 = .ok (.iconst 1, 1) := by decide +kernel
theorem dX3_isSame_36 : decode cX3_isSame 36 = .ok (.goto 4, 3) := by decide +kernel
theorem dX3_isSame_39 : decode cX3_isSame 39 = .ok (.iconst 0, 1) := by decide +kernel
theorem dX3_isSame_40 : decode cX3_isSame 40 = .ok (.ireturn, 1) := by decide +kernel
theorem dX3_isSame_41 : decode cX3_isSame 41 = .ok (.lload_n 1, 1) := by decide +kernel
theorem dX3_isSame_42 : decode cX3_isSame 42 = .ok (.lload_n 3, 1) := by decide +kernel
theorem dX3_isSame_43 : decode cX3_isSame 43 = .ok (.lcmp, 1) := by decide +kernel
theorem dX3_isSame_44 : decode cX3_isSame 44 = .ok (.ifCond .ne 7, 3) := by decide +kernel
theorem dX3_isSame_47 : decode cX3_isSame 47 = .ok (.iconst 1, 1) := by decide +kernel
theorem dX3_isSame_48 : decode cX3_isSame 48 = .ok (.goto 4, 3) := by decide +kernel
theorem dX3_isSame_51 : decode cX3_isSame 51 = .ok (.iconst 0, 1) := by decide +kernel
theorem dX3_isSame_52 : decode cX3_isSame 52 = .ok (.ireturn, 1) := by decide +kernel
theorem dX3_countPairs_0 : decode cX3_countPairs 0 = .ok (.lload_n 1, 1) := by decide +kernel
theorem dX3_countPairs_1 : decode cX3_countPairs 1 = .ok (.lstore_n 3, 1) := by decide +kernel
theorem dX3_countPairs_2 : decode cX3_countPairs 2 = .ok (.iconst 0, 1) := by decide +kernel
theorem dX3_countPairs_3 : decode cX3_countPairs 3 = .ok (.istore 5, 2) := by decide +kernel
theorem dX3_countPairs_5 : decode cX3_countPairs 5 = .ok (.iload 5, 2) := by decide +kernel
theorem dX3_countPairs_7 : decode cX3_countPairs 7 = .ok (.bipush 120, 2) := by decide +kernel
theorem dX3_countPairs_9 : decode cX3_countPairs 9 = .ok (.if_icmp .gt 33, 3) := by decide +kernel
theorem dX3_countPairs_12 : decode cX3_countPairs 12 = .ok (.lload_n 3, 1) := by decide +kernel
theorem dX3_countPairs_13 : decode cX3_countPairs 13 = .ok (.invokestatic 118, 3) := by decide +kernel
theorem dX3_countPairs_16 : decode cX3_countPairs 16 = .ok (.iconst 2, 1) := by decide +kernel
theorem dX3_countPairs_17 : decode cX3_countPairs 17 = .ok (.if_icmp .ne 25, 3) := by decide +kernel
theorem dX3_countPairs_20 : decode cX3_countPairs 20 = .ok (.iinc 5 1, 3) := by decide +kernel
theorem dX3_countPairs_23 : decode cX3_countPairs 23 = .ok (.aload_n 0, 1) := by decide +kernel
theorem dX3_countPairs_24 : decode cX3_countPairs 24 = .ok (.getfield 34, 3) := by decide +kernel
theorem dX3_countPairs_27 : decode cX3_countPairs 27 = .ok (.aload_n 0, 1) := by decide +kernel
theorem dX3_countPairs_28 : decode cX3_countPairs 28 = .ok (.getfield 34, 3) := by decide +kernel
theorem dX3_countPairs_31 : decode cX3_countPairs 31 = .ok (.lload_n 3, 1) := by decide +kernel
theorem dX3_countPairs_32 : decode cX3_countPairs 32 = .ok (.invokevirtual 87, 3) := by decide +kernel
theorem dX3_countPairs_35 : decode cX3_countPairs 35 = .ok (.invokevirtual 95, 3) := by decide +kernel
theorem dX3_countPairs_38 : decode cX3_countPairs 38 = .ok (.lstore_n 3, 1) := by decide +kernel
theorem dX3_countPairs_39 : decode cX3_countPairs 39 = .ok (.goto (-34), 3) := by decide +kernel
theorem dX3_countPairs_42 : decode cX3_countPairs 42 = .ok (.iload 5, 2) := by decide +kernel
theorem dX3_countPairs_44 : decode cX3_countPairs 44 = .ok (.bipush 120, 2) := by decide +kernel
theorem dX3_countPairs_46 : decode cX3_countPairs 46 = .ok (.if_icmp .le 6, 3) := by decide +kernel
theorem dX3_countPairs_49 : decode cX3_countPairs 49 = .ok (.bipush (-2), 2) := by decide +kernel
theorem dX3_countPairs_51 : decode cX3_countPairs 51 = .ok (.ireturn, 1) := by decide +kernel
theorem dX3_countPairs_52 : decode cX3_countPairs 52 = .ok (.lload_n 3, 1) := by decide +kernel
theorem dX3_countPairs_53 : decode cX3_countPairs 53 = .ok (.invokestatic 118, 3) := by decide +kernel
theorem dX3_countPairs_56 : decode cX3_countPairs 56 = .ok (.ifCond .ne 8, 3) := by decide +kernel
theorem dX3_countPairs_59 : decode cX3_countPairs 59 = .ok (.iload 5, 2) := by decide +kernel
theorem dX3_countPairs_61 : decode cX3_countPairs 61 = .ok (.goto 4, 3) := by decide +kernel
theorem dX3_countPairs_64 : decode cX3_countPairs 64 = .ok (.iconst (-1), 1) := by decide +kernel
theorem dX3_countPairs_65 : decode cX3_countPairs 65 = .ok (.ireturn, 1) := by decide +kernel
theorem dX3_countWords_0 : decode cX3_countWords 0 = .ok (.aload_n 0, 1) := by decide +kernel
theorem dX3_countWords_1 : decode cX3_countWords 1 = .ok (.getfield 27, 3) := by decide +kernel
theorem dX3_countWords_4 : decode cX3_countWords 4 = .ok (.iconst 0, 1) := by decide +kernel
theorem dX3_countWords_5 : decode cX3_countWords 5 = .ok (.invokestatic 190, 3) := by decide +kernel
theorem dX3_countWords_8 : decode cX3_countWords 8 = .ok (.lload_n 1, 1) := by decide +kernel
theorem dX3_countWords_9 : decode cX3_countWords 9 = .ok (.lstore_n 3, 1) := by decide +kernel
theorem dX3_countWords_10 : decode cX3_countWords 10 = .ok (.iconst 0, 1) := by decide +kernel
theorem dX3_countWords_11 : decode cX3_countWords 11 = .ok (.istore 5, 2) := by decide +kernel
theorem dX3_countWords_13 : decode cX3_countWords 13 = .ok (.iconst 0, 1) := by decide +kernel
theorem dX3_countWords_14 : decode cX3_countWords 14 = .ok (.istore 6, 2) := by decide +kernel
theorem dX3_countWords_16 : decode cX3_countWords 16 = .ok (.iload 6, 2) := by decide +kernel
theorem dX3_countWords_18 : decode cX3_countWords 18 = .ok (.bipush 120, 2) := by decide +kernel
theorem dX3_countWords_20 : decode cX3_countWords 20 = .ok (.if_icmp .ge 94, 3) := by decide +kernel
theorem dX3_countWords_23 : decode cX3_countWords 23 = .ok (.lload_n 3, 1) := by decide +kernel
theorem dX3_countWords_24 : decode cX3_countWords 24 = .ok (.invokestatic 118, 3) := by decide +kernel
theorem dX3_countWords_27 : decode cX3_countWords 27 = .ok (.iconst 2, 1) := by decide +kernel
theorem dX3_countWords_28 : decode cX3_countWords 28 = .ok (.if_icmp .ne 86, 3) := by decide +kernel
theorem dX3_countWords_31 : decode cX3_countWords 31 = .ok (.aload_n 0, 1) := by decide +kernel
theorem dX3_countWords_32 : decode cX3_countWords 32 = .ok (.getfield 34, 3) := by decide +kernel
theorem dX3_countWords_35 : decode cX3_countWords 35 = .ok (.lload_n 3, 1) := by decide +kernel
theorem dX3_countWords_36 : decode cX3_countWords 36 = .ok (.invokevirtual 87, 3) := by decide +kernel
theorem dX3_countWords_39 : decode cX3_countWords 39 = .ok (.istore 7, 2) := by decide +kernel
theorem dX3_countWords_41 : decode cX3_countWords 41 = .ok (.aload_n 0, 1) := by decide +kernel
theorem dX3_countWords_42 : decode cX3_countWords 42 = .ok (.getfield 27, 3) := by decide +kernel
theorem dX3_countWords_45 : decode cX3_countWords 45 = .ok (.iload 7, 2) := by decide +kernel
theorem dX3_countWords_47 : decode cX3_countWords 47 = .ok (.iaload, 1) := by decide +kernel
theorem dX3_countWords_48 : decode cX3_countWords 48 = .ok (.iconst 1, 1) := by decide +kernel
theorem dX3_countWords_49 : decode cX3_countWords 49 = .ok (.if_icmp .ne 6, 3) := by decide +kernel
theorem dX3_countWords_52 : decode cX3_countWords 52 = .ok (.iload 5, 2) := by decide +kernel
theorem dX3_countWords_54 : decode cX3_countWords 54 = .ok (.ireturn, 1) := by decide +kernel
theorem dX3_countWords_55 : decode cX3_countWords 55 = .ok (.aload_n 0, 1) := by decide +kernel
theorem dX3_countWords_56 : decode cX3_countWords 56 = .ok (.getfield 27, 3) := by decide +kernel
theorem dX3_countWords_59 : decode cX3_countWords 59 = .ok (.iload 7, 2) := by decide +kernel
theorem dX3_countWords_61 : decode cX3_countWords 61 = .ok (.iconst 1, 1) := by decide +kernel
theorem dX3_countWords_62 : decode cX3_countWords 62 = .ok (.iastore, 1) := by decide +kernel
theorem dX3_countWords_63 : decode cX3_countWords 63 = .ok (.iload 5, 2) := by decide +kernel
theorem dX3_countWords_65 : decode cX3_countWords 65 = .ok (.aload_n 0, 1) := by decide +kernel
theorem dX3_countWords_66 : decode cX3_countWords 66 = .ok (.getfield 34, 3) := by decide +kernel
theorem dX3_countWords_69 : decode cX3_countWords 69 = .ok (.iload 7, 2) := by decide +kernel
theorem dX3_countWords_71 : decode cX3_countWords 71 = .ok (.invokevirtual 106, 3) := by decide +kernel
theorem dX3_countWords_74 : decode cX3_countWords 74 = .ok (.iconst 2, 1) := by decide +kernel
theorem dX3_countWords_75 : decode cX3_countWords 75 = .ok (.if_icmp .ne 7, 3) := by decide +kernel
theorem dX3_countWords_78 : decode cX3_countWords 78 = .ok (.iconst 2, 1) := by decide +kernel
theorem dX3_countWords_79 : decode cX3_countWords 79 = .ok (.goto 4, 3) := by decide +kernel
theorem dX3_countWords_82 : decode cX3_countWords 82 = .ok (.iconst 1, 1) := by decide +kernel
theorem dX3_countWords_83 : decode cX3_countWords 83 = .ok (.iadd, 1) := by decide +kernel
theorem dX3_countWords_84 : decode cX3_countWords 84 = .ok (.istore 5, 2) := by decide +kernel
theorem dX3_countWords_86 : decode cX3_countWords 86 = .ok (.iload 7, 2) := by decide +kernel
theorem dX3_countWords_88 : decode cX3_countWords 88 = .ok (.lload_n 3, 1) := by decide +kernel
theorem dX3_countWords_89 : decode cX3_countWords 89 = .ok (.invokestatic 196, 3) := by decide +kernel
theorem dX3_countWords_92 : decode cX3_countWords 92 = .ok (.if_icmp .eq 6, 3) := by decide +kernel
theorem dX3_countWords_95 : decode cX3_countWords 95 = .ok (.iinc 5 1, 3) := by decide +kernel
theorem dX3_countWords_98 : decode cX3_countWords 98 = .ok (.aload_n 0, 1) := by decide +kernel
theorem dX3_countWords_99 : decode cX3_countWords 99 = .ok (.getfield 34, 3) := by decide +kernel
theorem dX3_countWords_102 : decode cX3_countWords 102 = .ok (.iload 7, 2) := by decide +kernel
theorem dX3_countWords_104 : decode cX3_countWords 104 = .ok (.invokevirtual 95, 3) := by decide +kernel
theorem dX3_countWords_107 : decode cX3_countWords 107 = .ok (.lstore_n 3, 1) := by decide +kernel
theorem dX3_countWords_108 : decode cX3_countWords 108 = .ok (.iinc 6 1, 3) := by decide +kernel
theorem dX3_countWords_111 : decode cX3_countWords 111 = .ok (.goto (-95), 3) := by decide +kernel
theorem dX3_countWords_114 : decode cX3_countWords 114 = .ok (.iload 5, 2) := by decide +kernel
theorem dX3_countWords_116 : decode cX3_countWords 116 = .ok (.ireturn, 1) := by decide +kernel
theorem dX3_takeFirsts_0 : decode cX3_takeFirsts 0 = .ok (.lload 4, 2) := by decide +kernel
theorem dX3_takeFirsts_2 : decode cX3_takeFirsts 2 = .ok (.invokestatic 118, 3) := by decide +kernel
theorem dX3_takeFirsts_5 : decode cX3_takeFirsts 5 = .ok (.ifCond .ne 7, 3) := by decide +kernel
theorem dX3_takeFirsts_8 : decode cX3_takeFirsts 8 = .ok (.iconst 1, 1) := by decide +kernel
theorem dX3_takeFirsts_9 : decode cX3_takeFirsts 9 = .ok (.goto 4, 3) := by decide +kernel
theorem dX3_takeFirsts_12 : decode cX3_takeFirsts 12 = .ok (.iconst 0, 1) := by decide +kernel
theorem dX3_takeFirsts_13 : decode cX3_takeFirsts 13 = .ok (.istore 6, 2) := by decide +kernel
theorem dX3_takeFirsts_15 : decode cX3_takeFirsts 15 = .ok (.lload_n 1, 1) := by decide +kernel
theorem dX3_takeFirsts_16 : decode cX3_takeFirsts 16 = .ok (.lstore 7, 2) := by decide +kernel
theorem dX3_takeFirsts_18 : decode cX3_takeFirsts 18 = .ok (.iconst 0, 1) := by decide +kernel
theorem dX3_takeFirsts_19 : decode cX3_takeFirsts 19 = .ok (.istore 9, 2) := by decide +kernel
theorem dX3_takeFirsts_21 : decode cX3_takeFirsts 21 = .ok (.iload 9, 2) := by decide +kernel
theorem dX3_takeFirsts_23 : decode cX3_takeFirsts 23 = .ok (.iload_n 3, 1) := by decide +kernel
theorem dX3_takeFirsts_24 : decode cX3_takeFirsts 24 = .ok (.if_icmp .ge 95, 3) := by decide +kernel
theorem dX3_takeFirsts_27 : decode cX3_takeFirsts 27 = .ok (.aload_n 0, 1) := by decide +kernel
theorem dX3_takeFirsts_28 : decode cX3_takeFirsts 28 = .ok (.getfield 34, 3) := by decide +kernel
theorem dX3_takeFirsts_31 : decode cX3_takeFirsts 31 = .ok (.lload 7, 2) := by decide +kernel
theorem dX3_takeFirsts_33 : decode cX3_takeFirsts 33 = .ok (.invokevirtual 87, 3) := by decide +kernel
theorem dX3_takeFirsts_36 : decode cX3_takeFirsts 36 = .ok (.istore 10, 2) := by decide +kernel
theorem dX3_takeFirsts_38 : decode cX3_takeFirsts 38 = .ok (.aload_n 0, 1) := by decide +kernel
theorem dX3_takeFirsts_39 : decode cX3_takeFirsts 39 = .ok (.getfield 34, 3) := by decide +kernel
theorem dX3_takeFirsts_42 : decode cX3_takeFirsts 42 = .ok (.iload 10, 2) := by decide +kernel
theorem dX3_takeFirsts_44 : decode cX3_takeFirsts 44 = .ok (.invokevirtual 91, 3) := by decide +kernel
theorem dX3_takeFirsts_47 : decode cX3_takeFirsts 47 = .ok (.lstore 11, 2) := by decide +kernel
theorem dX3_takeFirsts_49 : decode cX3_takeFirsts 49 = .ok (.iload 9, 2) := by decide +kernel
theorem dX3_takeFirsts_51 : decode cX3_takeFirsts 51 = .ok (.iload_n 3, 1) := by decide +kernel
theorem dX3_takeFirsts_52 : decode cX3_takeFirsts 52 = .ok (.iconst 1, 1) := by decide +kernel
theorem dX3_takeFirsts_53 : decode cX3_takeFirsts 53 = .ok (.isub, 1) := by decide +kernel
theorem dX3_takeFirsts_54 : decode cX3_takeFirsts 54 = .ok (.if_icmp .ge 17, 3) := by decide +kernel
theorem dX3_takeFirsts_57 : decode cX3_takeFirsts 57 = .ok (.aload_n 0, 1) := by decide +kernel
theorem dX3_takeFirsts_58 : decode cX3_takeFirsts 58 = .ok (.getfield 34, 3) := by decide +kernel
theorem dX3_takeFirsts_61 : decode cX3_takeFirsts 61 = .ok (.iconst 0, 1) := by decide +kernel
theorem dX3_takeFirsts_62 : decode cX3_takeFirsts 62 = .ok (.lload 11, 2) := by decide +kernel
theorem dX3_takeFirsts_64 : decode cX3_takeFirsts 64 = .ok (.invokevirtual 80, 3) := by decide +kernel
theorem dX3_takeFirsts_67 : decode cX3_takeFirsts 67 = .ok (.pop, 1) := by decide +kernel
theorem dX3_takeFirsts_68 : decode cX3_takeFirsts 68 = .ok (.goto 34, 3) := by decide +kernel
theorem dX3_takeFirsts_71 : decode cX3_takeFirsts 71 = .ok (.iload 6, 2) := by decide +kernel
theorem dX3_takeFirsts_73 : decode cX3_takeFirsts 73 = .ok (.ifCond .eq 17, 3) := by decide +kernel
theorem dX3_takeFirsts_76 : decode cX3_takeFirsts 76 = .ok (.aload_n 0, 1) := by decide +kernel
theorem dX3_takeFirsts_77 : decode cX3_takeFirsts 77 = .ok (.getfield 34, 3) := by decide +kernel
theorem dX3_takeFirsts_80 : decode cX3_takeFirsts 80 = .ok (.iconst 1, 1) := by decide +kernel
theorem dX3_takeFirsts_81 : decode cX3_takeFirsts 81 = .ok (.lload 11, 2) := by decide +kernel
theorem dX3_takeFirsts_83 : decode cX3_takeFirsts 83 = .ok (.invokevirtual 80, 3) := by decide +kernel
theorem dX3_takeFirsts_86 : decode cX3_takeFirsts 86 = .ok (.pop, 1) := by decide +kernel
theorem dX3_takeFirsts_87 : decode cX3_takeFirsts 87 = .ok (.goto 15, 3) := by decide +kernel
theorem dX3_takeFirsts_90 : decode cX3_takeFirsts 90 = .ok (.aload_n 0, 1) := by decide +kernel
theorem dX3_takeFirsts_91 : decode cX3_takeFirsts 91 = .ok (.getfield 34, 3) := by decide +kernel
theorem dX3_takeFirsts_94 : decode cX3_takeFirsts 94 = .ok (.lload 11, 2) := by decide +kernel
theorem dX3_takeFirsts_96 : decode cX3_takeFirsts 96 = .ok (.lload 4, 2) := by decide +kernel
theorem dX3_takeFirsts_98 : decode cX3_takeFirsts 98 = .ok (.invokevirtual 71, 3) := by decide +kernel
theorem dX3_takeFirsts_101 : decode cX3_takeFirsts 101 = .ok (.pop, 1) := by decide +kernel
theorem dX3_takeFirsts_102 : decode cX3_takeFirsts 102 = .ok (.aload_n 0, 1) := by decide +kernel
theorem dX3_takeFirsts_103 : decode cX3_takeFirsts 103 = .ok (.getfield 34, 3) := by decide +kernel
theorem dX3_takeFirsts_106 : decode cX3_takeFirsts 106 = .ok (.iload 10, 2) := by decide +kernel
theorem dX3_takeFirsts_108 : decode cX3_takeFirsts 108 = .ok (.invokevirtual 95, 3) := by decide +kernel
theorem dX3_takeFirsts_111 : decode cX3_takeFirsts 111 = .ok (.lstore 7, 2) := by decide +kernel
theorem dX3_takeFirsts_113 : decode cX3_takeFirsts 113 = .ok (.iinc 9 1, 3) := by decide +kernel
theorem dX3_takeFirsts_116 : decode cX3_takeFirsts 116 = .ok (.goto (-95), 3) := by decide +kernel
theorem dX3_takeFirsts_119 : decode cX3_takeFirsts 119 = .ok (.return_, 1) := by decide +kernel
theorem dX4_init_0 : decode cX4_init 0 = .ok (.aload_n 0, 1) := by decide +kernel
theorem dX4_init_1 : decode cX4_init 1 = .ok (.invokespecial 1, 3) := by decide +kernel
theorem dX4_init_4 : decode cX4_init 4 = .ok (.aload_n 0, 1) := by decide +kernel
theorem dX4_init_5 : decode cX4_init 5 = .ok (.bipush 120, 2) := by decide +kernel
theorem dX4_init_7 : decode cX4_init 7 = .ok (.newarray .int, 2) := by decide +kernel
theorem dX4_init_9 : decode cX4_init 9 = .ok (.putfield 7, 3) := by decide +kernel
theorem dX4_init_12 : decode cX4_init 12 = .ok (.aload_n 0, 1) := by decide +kernel
theorem dX4_init_13 : decode cX4_init 13 = .ok (.bipush 120, 2) := by decide +kernel
theorem dX4_init_15 : decode cX4_init 15 = .ok (.newarray .int, 2) := by decide +kernel
theorem dX4_init_17 : decode cX4_init 17 = .ok (.putfield 13, 3) := by decide +kernel
theorem dX4_init_20 : decode cX4_init 20 = .ok (.aload_n 0, 1) := by decide +kernel
theorem dX4_init_21 : decode cX4_init 21 = .ok (.bipush 120, 2) := by decide +kernel
theorem dX4_init_23 : decode cX4_init 23 = .ok (.newarray .long, 2) := by decide +kernel
theorem dX4_init_25 : decode cX4_init 25 = .ok (.putfield 16, 3) := by decide +kernel
theorem dX4_init_28 : decode cX4_init 28 = .ok (.aload_n 0, 1) := by decide +kernel
theorem dX4_init_29 : decode cX4_init 29 = .ok (.bipush 10, 2) := by decide +kernel
theorem dX4_init_31 : decode cX4_init 31 = .ok (.newarray .int, 2) := by decide +kernel
theorem dX4_init_33 : decode cX4_init 33 = .ok (.putfield 20, 3) := by decide +kernel
theorem dX4_init_36 : decode cX4_init 36 = .ok (.aload_n 0, 1) := by decide +kernel
theorem dX4_init_37 : decode cX4_init 37 = .ok (.bipush 10, 2) := by decide +kernel
theorem dX4_init_39 : decode cX4_init 39 = .ok (.newarray .long, 2) := by decide +kernel
theorem dX4_init_41 : decode cX4_init 41 = .ok (.putfield 23, 3) := by decide +kernel
theorem dX4_init_44 : decode cX4_init 44 = .ok (.aload_n 0, 1) := by decide +kernel
theorem dX4_init_45 : decode cX4_init 45 = .ok (.bipush 120, 2) := by decide +kernel
theorem dX4_init_47 : decode cX4_init 47 = .ok (.newarray .int, 2) := by decide +kernel
theorem dX4_init_49 : decode cX4_init 49 = .ok (.putfield 26, 3) := by decide +kernel
theorem dX4_init_52 : decode cX4_init 52 = .ok (.aload_n 0, 1) := by decide +kernel
theorem dX4_init_53 : decode cX4_init 53 = .ok (.bipush 120, 2) := by decide +kernel
theorem dX4_init_55 : decode cX4_init 55 = .ok (.newarray .int, 2) := by decide +kernel
theorem dX4_init_57 : decode cX4_init 57 = .ok (.putfield 29, 3) := by decide +kernel
theorem dX4_init_60 : decode cX4_init 60 = .ok (.aload_n 0, 1) := by decide +kernel
theorem dX4_init_61 : decode cX4_init 61 = .ok (.bipush 120, 2) := by decide +kernel
theorem dX4_init_63 : decode cX4_init 63 = .ok (.newarray .int, 2) := by decide +kernel
theorem dX4_init_65 : decode cX4_init 65 = .ok (.putfield 32, 3) := by decide +kernel
theorem dX4_init_68 : decode cX4_init 68 = .ok (.aload_n 0, 1) := by decide +kernel
theorem dX4_init_69 : decode cX4_init 69 = .ok (.bipush 120, 2) := by decide +kernel
theorem dX4_init_71 : decode cX4_init 71 = .ok (.newarray .int, 2) := by decide +kernel
theorem dX4_init_73 : decode cX4_init 73 = .ok (.putfield 35, 3) := by decide +kernel
theorem dX4_init_76 : decode cX4_init 76 = .ok (.aload_n 0, 1) := by decide +kernel
theorem dX4_init_77 : decode cX4_init 77 = .ok (.bipush 120, 2) := by decide +kernel
theorem dX4_init_79 : decode cX4_init 79 = .ok (.newarray .long, 2) := by decide +kernel
theorem dX4_init_81 : decode cX4_init 81 = .ok (.putfield 38, 3) := by decide +kernel
theorem dX4_init_84 : decode cX4_init 84 = .ok (.aload_n 0, 1) := by decide +kernel
theorem dX4_init_85 : decode cX4_init 85 = .ok (.bipush 120, 2) := by decide +kernel
theorem dX4_init_87 : decode cX4_init 87 = .ok (.newarray .int, 2) := by decide +kernel
theorem dX4_init_89 : decode cX4_init 89 = .ok (.putfield 41, 3) := by decide +kernel
theorem dX4_init_92 : decode cX4_init 92 = .ok (.aload_n 0, 1) := by decide +kernel
theorem dX4_init_93 : decode cX4_init 93 = .ok (.bipush 120, 2) := by decide +kernel
theorem dX4_init_95 : decode cX4_init 95 = .ok (.newarray .int, 2) := by decide +kernel
theorem dX4_init_97 : decode cX4_init 97 = .ok (.putfield 44, 3) := by decide +kernel
theorem dX4_init_100 : decode cX4_init 100 = .ok (.aload_n 0, 1) := by decide +kernel
theorem dX4_init_101 : decode cX4_init 101 = .ok (.bipush 120, 2) := by decide +kernel
theorem dX4_init_103 : decode cX4_init 103 = .ok (.newarray .int, 2) := by decide +kernel
theorem dX4_init_105 : decode cX4_init 105 = .ok (.putfield 47, 3) := by decide +kernel
theorem dX4_init_108 : decode cX4_init 108 = .ok (.aload_n 0, 1) := by decide +kernel
theorem dX4_init_109 : decode cX4_init 109 = .ok (.bipush 120, 2) := by decide +kernel
theorem dX4_init_111 : decode cX4_init 111 = .ok (.newarray .boolean, 2) := by decide +kernel
theorem dX4_init_113 : decode cX4_init 113 = .ok (.putfield 50, 3) := by decide +kernel
theorem dX4_init_116 : decode cX4_init 116 = .ok (.return_, 1) := by decide +kernel
theorem dX4_thrown_0 : decode cX4_thrown 0 = .ok (.aload_n 0, 1) := by decide +kernel
theorem dX4_thrown_1 : decode cX4_thrown 1 = .ok (.getfield 54, 3) := by decide +kernel
theorem dX4_thrown_4 : decode cX4_thrown 4 = .ok (.ireturn, 1) := by decide +kernel
theorem dX4_refuse_0 : decode cX4_refuse 0 = .ok (.aload_n 0, 1) := by decide +kernel
theorem dX4_refuse_1 : decode cX4_refuse 1 = .ok (.iload_n 1, 1) := by decide +kernel
theorem dX4_refuse_2 : decode cX4_refuse 2 = .ok (.ifCond .eq 7, 3) := by decide +kernel
theorem dX4_refuse_5 : decode cX4_refuse 5 = .ok (.iconst 1, 1) := by decide +kernel
theorem dX4_refuse_6 : decode cX4_refuse 6 = .ok (.goto 12, 3) := by decide +kernel
theorem dX4_refuse_9 : decode cX4_refuse 9 = .ok (.iload_n 2, 1) := by decide +kernel
theorem dX4_refuse_10 : decode cX4_refuse 10 = .ok (.ifCond .eq 7, 3) := by decide +kernel
theorem dX4_refuse_13 : decode cX4_refuse 13 = .ok (.iconst 2, 1) := by decide +kernel
theorem dX4_refuse_14 : decode cX4_refuse 14 = .ok (.goto 4, 3) := by decide +kernel
theorem dX4_refuse_17 : decode cX4_refuse 17 = .ok (.iconst 0, 1) := by decide +kernel
theorem dX4_refuse_18 : decode cX4_refuse 18 = .ok (.putfield 54, 3) := by decide +kernel
theorem dX4_refuse_21 : decode cX4_refuse 21 = .ok (.aload_n 0, 1) := by decide +kernel
theorem dX4_refuse_22 : decode cX4_refuse 22 = .ok (.getfield 54, 3) := by decide +kernel
theorem dX4_refuse_25 : decode cX4_refuse 25 = .ok (.ifCond .le 7, 3) := by decide +kernel
theorem dX4_refuse_28 : decode cX4_refuse 28 = .ok (.iconst 1, 1) := by decide +kernel
theorem dX4_refuse_29 : decode cX4_refuse 29 = .ok (.goto 4, 3) := by decide +kernel
theorem dX4_refuse_32 : decode cX4_refuse 32 = .ok (.iconst 0, 1) := by decide +kernel
theorem dX4_refuse_33 : decode cX4_refuse 33 = .ok (.ireturn, 1) := by decide +kernel
theorem dX4_none_0 : decode cX4_none 0 = .ok (.iload_n 0, 1) := by decide +kernel
theorem dX4_none_1 : decode cX4_none 1 = .ok (.ifCond .lt 9, 3) := by decide +kernel
theorem dX4_none_4 : decode cX4_none 4 = .ok (.iload_n 0, 1) := by decide +kernel
theorem dX4_none_5 : decode cX4_none 5 = .ok (.bipush 9, 2) := by decide +kernel
theorem dX4_none_7 : decode cX4_none 7 = .ok (.if_icmp .le 7, 3) := by decide +kernel
theorem dX4_none_10 : decode cX4_none 10 = .ok (.iconst 1, 1) := by decide +kernel
theorem dX4_none_11 : decode cX4_none 11 = .ok (.goto 4, 3) := by decide +kernel
theorem dX4_none_14 : decode cX4_none 14 = .ok (.iconst 0, 1) := by decide +kernel
theorem dX4_none_15 : decode cX4_none 15 = .ok (.ireturn, 1) := by decide +kernel
theorem dX4_setRoot_0 : decode cX4_setRoot 0 = .ok (.aload_n 0, 1) := by decide +kernel
theorem dX4_setRoot_1 : decode cX4_setRoot 1 = .ok (.getfield 20, 3) := by decide +kernel
theorem dX4_setRoot_4 : decode cX4_setRoot 4 = .ok (.iload_n 1, 1) := by decide +kernel
theorem dX4_setRoot_5 : decode cX4_setRoot 5 = .ok (.iload_n 2, 1) := by decide +kernel
theorem dX4_setRoot_6 : decode cX4_setRoot 6 = .ok (.iastore, 1) := by decide +kernel
theorem dX4_setRoot_7 : decode cX4_setRoot 7 = .ok (.aload_n 0, 1) := by decide +kernel
theorem dX4_setRoot_8 : decode cX4_setRoot 8 = .ok (.getfield 23, 3) := by decide +kernel
theorem dX4_setRoot_11 : decode cX4_setRoot 11 = .ok (.iload_n 1, 1) := by decide +kernel
theorem dX4_setRoot_12 : decode cX4_setRoot 12 = .ok (.lload_n 3, 1) := by decide +kernel
theorem dX4_setRoot_13 : decode cX4_setRoot 13 = .ok (.lastore, 1) := by decide +kernel
theorem dX4_setRoot_14 : decode cX4_setRoot 14 = .ok (.return_, 1) := by decide +kernel
theorem dX4_look_0 : decode cX4_look 0 = .ok (.aload_n 0, 1) := by decide +kernel
theorem dX4_look_1 : decode cX4_look 1 = .ok (.iload_n 1, 1) := by decide +kernel
theorem dX4_look_2 : decode cX4_look 2 = .ok (.putfield 58, 3) := by decide +kernel
theorem dX4_look_5 : decode cX4_look 5 = .ok (.aload_n 0, 1) := by decide +kernel
theorem dX4_look_6 : decode cX4_look 6 = .ok (.lload_n 2, 1) := by decide +kernel
theorem dX4_look_7 : decode cX4_look 7 = .ok (.putfield 61, 3) := by decide +kernel
theorem dX4_look_10 : decode cX4_look 10 = .ok (.return_, 1) := by decide +kernel
theorem dX4_cell_0 : decode cX4_cell 0 = .ok (.lload_n 1, 1) := by decide +kernel
theorem dX4_cell_1 : decode cX4_cell 1 = .ok (.l2i, 1) := by decide +kernel
theorem dX4_cell_2 : decode cX4_cell 2 = .ok (.istore_n 3, 1) := by decide +kernel
theorem dX4_cell_3 : decode cX4_cell 3 = .ok (.aload_n 0, 1) := by decide +kernel
theorem dX4_cell_4 : decode cX4_cell 4 = .ok (.getfield 13, 3) := by decide +kernel
theorem dX4_cell_7 : decode cX4_cell 7 = .ok (.iload_n 3, 1) := by decide +kernel
theorem dX4_cell_8 : decode cX4_cell 8 = .ok (.iaload, 1) := by decide +kernel
theorem dX4_cell_9 : decode cX4_cell 9 = .ok (.iconst 3, 1) := by decide +kernel
theorem dX4_cell_10 : decode cX4_cell 10 = .ok (.if_icmp .ne 14, 3) := by decide +kernel
theorem dX4_cell_13 : decode cX4_cell 13 = .ok (.aload_n 0, 1) := by decide +kernel
theorem dX4_cell_14 : decode cX4_cell 14 = .ok (.getfield 16, 3) := by decide +kernel
theorem dX4_cell_17 : decode cX4_cell 17 = .ok (.iload_n 3, 1) := by decide +kernel
theorem dX4_cell_18 : decode cX4_cell 18 = .ok (.laload, 1) := by decide +kernel
theorem dX4_cell_19 : decode cX4_cell 19 = .ok (.l2i, 1) := by decide +kernel
theorem dX4_cell_20 : decode cX4_cell 20 = .ok (.istore_n 3, 1) := by decide +kernel
theorem dX4_cell_21 : decode cX4_cell 21 = .ok (.goto (-18), 3) := by decide +kernel
theorem dX4_cell_24 : decode cX4_cell 24 = .ok (.iload_n 3, 1) := by decide +kernel
theorem dX4_cell_25 : decode cX4_cell 25 = .ok (.ireturn, 1) := by decide +kernel
theorem dX4_cellOf_0 : decode cX4_cellOf 0 = .ok (.aload_n 0, 1) := by decide +kernel
theorem dX4_cellOf_1 : decode cX4_cellOf 1 = .ok (.aload_n 0, 1) := by decide +kernel
theorem dX4_cellOf_2 : decode cX4_cellOf 2 = .ok (.getfield 23, 3) := by decide +kernel
theorem dX4_cellOf_5 : decode cX4_cellOf 5 = .ok (.iload_n 1, 1) := by decide +kernel
theorem dX4_cellOf_6 : decode cX4_cellOf 6 = .ok (.laload, 1) := by decide +kernel
theorem dX4_cellOf_7 : decode cX4_cellOf 7 = .ok (.invokevirtual 65, 3) := by decide +kernel
theorem dX4_cellOf_10 : decode cX4_cellOf 10 = .ok (.ireturn, 1) := by decide +kernel
theorem dX4_lookRest_0 : decode cX4_lookRest 0 = .ok (.aload_n 0, 1) := by decide +kernel
theorem dX4_lookRest_1 : decode cX4_lookRest 1 = .ok (.getfield 7, 3) := by decide +kernel
theorem dX4_lookRest_4 : decode cX4_lookRest 4 = .ok (.iload_n 1, 1) := by decide +kernel
theorem dX4_lookRest_5 : decode cX4_lookRest 5 = .ok (.iaload, 1) := by decide +kernel
theorem dX4_lookRest_6 : decode cX4_lookRest 6 = .ok (.ifCond .ne 15, 3) := by decide +kernel
theorem dX4_lookRest_9 : decode cX4_lookRest 9 = .ok (.aload_n 0, 1) := by decide +kernel
theorem dX4_lookRest_10 : decode cX4_lookRest 10 = .ok (.iconst 2, 1) := by decide +kernel
theorem dX4_lookRest_11 : decode cX4_lookRest 11 = .ok (.iload_n 1, 1) := by decide +kernel
theorem dX4_lookRest_12 : decode cX4_lookRest 12 = .ok (.i2l, 1) := by decide +kernel
theorem dX4_lookRest_13 : decode cX4_lookRest 13 = .ok (.lconst 1, 1) := by decide +kernel
theorem dX4_lookRest_14 : decode cX4_lookRest 14 = .ok (.ladd, 1) := by decide +kernel
theorem dX4_lookRest_15 : decode cX4_lookRest 15 = .ok (.invokevirtual 69, 3) := by decide +kernel
theorem dX4_lookRest_18 : decode cX4_lookRest 18 = .ok (.goto 42, 3) := by decide +kernel
theorem dX4_lookRest_21 : decode cX4_lookRest 21 = .ok (.aload_n 0, 1) := by decide +kernel
theorem dX4_lookRest_22 : decode cX4_lookRest 22 = .ok (.getfield 7, 3) := by decide +kernel
theorem dX4_lookRest_25 : decode cX4_lookRest 25 = .ok (.iload_n 1, 1) := by decide +kernel
theorem dX4_lookRest_26 : decode cX4_lookRest 26 = .ok (.iaload, 1) := by decide +kernel
theorem dX4_lookRest_27 : decode cX4_lookRest 27 = .ok (.iconst 1, 1) := by decide +kernel
theorem dX4_lookRest_28 : decode cX4_lookRest 28 = .ok (.if_icmp .ne 12, 3) := by decide +kernel
theorem dX4_lookRest_31 : decode cX4_lookRest 31 = .ok (.aload_n 0, 1) := by decide +kernel
theorem dX4_lookRest_32 : decode cX4_lookRest 32 = .ok (.iconst 0, 1) := by decide +kernel
theorem dX4_lookRest_33 : decode cX4_lookRest 33 = .ok (.lconst 0, 1) := by decide +kernel
theorem dX4_lookRest_34 : decode cX4_lookRest 34 = .ok (.invokevirtual 69, 3) := by decide +kernel
theorem dX4_lookRest_37 : decode cX4_lookRest 37 = .ok (.goto 23, 3) := by decide +kernel
theorem dX4_lookRest_40 : decode cX4_lookRest 40 = .ok (.aload_n 0, 1) := by decide +kernel
theorem dX4_lookRest_41 : decode cX4_lookRest 41 = .ok (.aload_n 0, 1) := by decide +kernel
theorem dX4_lookRest_42 : decode cX4_lookRest 42 = .ok (.getfield 13, 3) := by decide +kernel
theorem dX4_lookRest_45 : decode cX4_lookRest 45 = .ok (.iload_n 1, 1) := by decide +kernel
theorem dX4_lookRest_46 : decode cX4_lookRest 46 = .ok (.iconst 1, 1) := by decide +kernel
theorem dX4_lookRest_47 : decode cX4_lookRest 47 = .ok (.iadd, 1) := by decide +kernel
theorem dX4_lookRest_48 : decode cX4_lookRest 48 = .ok (.iaload, 1) := by decide +kernel
theorem dX4_lookRest_49 : decode cX4_lookRest 49 = .ok (.aload_n 0, 1) := by decide +kernel
theorem dX4_lookRest_50 : decode cX4_lookRest 50 = .ok (.getfield 16, 3) := by decide +kernel
theorem dX4_lookRest_53 : decode cX4_lookRest 53 = .ok (.iload_n 1, 1) := by decide +kernel
theorem dX4_lookRest_54 : decode cX4_lookRest 54 = .ok (.iconst 1, 1) := by decide +kernel
theorem dX4_lookRest_55 : decode cX4_lookRest 55 = .ok (.iadd, 1) := by decide +kernel
theorem dX4_lookRest_56 : decode cX4_lookRest 56 = .ok (.laload, 1) := by decide +kernel
theorem dX4_lookRest_57 : decode cX4_lookRest 57 = .ok (.invokevirtual 69, 3) := by decide +kernel
theorem dX4_lookRest_60 : decode cX4_lookRest 60 = .ok (.return_, 1) := by decide +kernel
theorem dX4_isSame_0 : decode cX4_isSame 0 = .ok (.iload_n 1, 1) := by decide +kernel
theorem dX4_isSame_1 : decode cX4_isSame 1 = .ok (.iload 4, 2) := by decide +kernel
theorem dX4_isSame_3 : decode cX4_isSame 3 = .ok (.if_icmp .eq 5, 3) := by decide +kernel
theorem dX4_isSame_6 : decode cX4_isSame 6 = .ok (.iconst 0, 1) := by decide +kernel
theorem dX4_isSame_7 : decode cX4_isSame 7 = .ok (.ireturn, 1) := by decide +kernel
theorem dX4_isSame_8 : decode cX4_isSame 8 = .ok (.iload_n 1, 1) := by decide +kernel
theorem dX4_isSame_9 : decode cX4_isSame 9 = .ok (.ifCond .eq 32, 3) := by decide +kernel
theorem dX4_isSame_12 : decode cX4_isSame 12 = .ok (.iload_n 1, 1) := by decide +kernel
theorem dX4_isSame_13 : decode cX4_isSame 13 = .ok (.iconst 1, 1) := by decide +kernel
theorem dX4_isSame_14 : decode cX4_isSame 14 = .ok (.if_icmp .ne 13, 3) := by decide +kernel
theorem dX4_isSame_17 : decode cX4_isSame 17 = .ok (.lload_n 2, 1) := by decide +kernel
theorem dX4_isSame_18 : decode cX4_isSame 18 = .ok (.lload 5, 2) := by decide +kernel
theorem dX4_isSame_20 : decode cX4_isSame 20 = .ok (.lcmp, 1) := by decide +kernel
theorem dX4_isSame_21 : decode cX4_isSame 21 = .ok (.ifCond .ne 24, 3) := by decide +kernel
theorem dX4_isSame_24 : decode cX4_isSame 24 = .ok (.goto 17, 3) := by decide +kernel
theorem dX4_isSame_27 : decode cX4_isSame 27 = .ok (.aload_n 0, 1) := by decide +kernel
theorem dX4_isSame_28 : decode cX4_isSame 28 = .ok (.lload_n 2, 1) := by decide +kernel
theorem dX4_isSame_29 : decode cX4_isSame 29 = .ok (.invokevirtual 65, 3) := by decide +kernel
theorem dX4_isSame_32 : decode cX4_isSame 32 = .ok (.aload_n 0, 1) := by decide +kernel
theorem dX4_isSame_33 : decode cX4_isSame 33 = .ok (.lload 5, 2) := by decide +kernel
theorem dX4_isSame_35 : decode cX4_isSame 35 = .ok (.invokevirtual 65, 3) := by decide +kernel
theorem dX4_isSame_38 : decode cX4_isSame 38 = .ok (.if_icmp .ne 7, 3) := by decide +kernel
theorem dX4_isSame_41 : decode cX4_isSame 41 = .ok (.iconst 1, 1) := by decide +kernel
theorem dX4_isSame_42 : decode cX4_isSame 42 = .ok (.goto 4, 3) := by decide +kernel
theorem dX4_isSame_45 : decode cX4_isSame 45 = .ok (.iconst 0, 1) := by decide +kernel
theorem dX4_isSame_46 : decode cX4_isSame 46 = .ok (.ireturn, 1) := by decide +kernel
theorem dX4_put_0 : decode cX4_put 0 = .ok (.aload_n 0, 1) := by decide +kernel
theorem dX4_put_1 : decode cX4_put 1 = .ok (.getfield 7, 3) := by decide +kernel
theorem dX4_put_4 : decode cX4_put 4 = .ok (.aload_n 0, 1) := by decide +kernel
theorem dX4_put_5 : decode cX4_put 5 = .ok (.getfield 73, 3) := by decide +kernel
theorem dX4_put_8 : decode cX4_put 8 = .ok (.iload_n 1, 1) := by decide +kernel
theorem dX4_put_9 : decode cX4_put 9 = .ok (.iastore, 1) := by decide +kernel
theorem dX4_put_10 : decode cX4_put 10 = .ok (.aload_n 0, 1) := by decide +kernel
theorem dX4_put_11 : decode cX4_put 11 = .ok (.getfield 13, 3) := by decide +kernel
theorem dX4_put_14 : decode cX4_put 14 = .ok (.aload_n 0, 1) := by decide +kernel
theorem dX4_put_15 : decode cX4_put 15 = .ok (.getfield 73, 3) := by decide +kernel
theorem dX4_put_18 : decode cX4_put 18 = .ok (.iload_n 2, 1) := by decide +kernel
theorem dX4_put_19 : decode cX4_put 19 = .ok (.iastore, 1) := by decide +kernel
theorem dX4_put_20 : decode cX4_put 20 = .ok (.aload_n 0, 1) := by decide +kernel
theorem dX4_put_21 : decode cX4_put 21 = .ok (.getfield 16, 3) := by decide +kernel
theorem dX4_put_24 : decode cX4_put 24 = .ok (.aload_n 0, 1) := by decide +kernel
theorem dX4_put_25 : decode cX4_put 25 = .ok (.getfield 73, 3) := by decide +kernel
theorem dX4_put_28 : decode cX4_put 28 = .ok (.lload_n 3, 1) := by decide +kernel
theorem dX4_put_29 : decode cX4_put 29 = .ok (.lastore, 1) := by decide +kernel
theorem dX4_put_30 : decode cX4_put 30 = .ok (.aload_n 0, 1) := by decide +kernel
theorem dX4_put_31 : decode cX4_put 31 = .ok (.dup, 1) := by decide +kernel
theorem dX4_put_32 : decode cX4_put 32 = .ok (.getfield 73, 3) := by decide +kernel
theorem dX4_put_35 : decode cX4_put 35 = .ok (.iconst 1, 1) := by decide +kernel
theorem dX4_put_36 : decode cX4_put 36 = .ok (.iadd, 1) := by decide +kernel
theorem dX4_put_37 : decode cX4_put 37 = .ok (.putfield 73, 3) := by decide +kernel
theorem dX4_put_40 : decode cX4_put 40 = .ok (.aload_n 0, 1) := by decide +kernel
theorem dX4_put_41 : decode cX4_put 41 = .ok (.getfield 73, 3) := by decide +kernel
theorem dX4_put_44 : decode cX4_put 44 = .ok (.iconst 1, 1) := by decide +kernel
theorem dX4_put_45 : decode cX4_put 45 = .ok (.isub, 1) := by decide +kernel
theorem dX4_put_46 : decode cX4_put 46 = .ok (.ireturn, 1) := by decide +kernel
theorem dX4_room_0 : decode cX4_room 0 = .ok (.aload_n 0, 1) := by decide +kernel
theorem dX4_room_1 : decode cX4_room 1 = .ok (.getfield 73, 3) := by decide +kernel
theorem dX4_room_4 : decode cX4_room 4 = .ok (.iload_n 1, 1) := by decide +kernel
theorem dX4_room_5 : decode cX4_room 5 = .ok (.iadd, 1) := by decide +kernel
theorem dX4_room_6 : decode cX4_room 6 = .ok (.bipush 120, 2) := by decide +kernel
theorem dX4_room_8 : decode cX4_room 8 = .ok (.if_icmp .le 7, 3) := by decide +kernel
theorem dX4_room_11 : decode cX4_room 11 = .ok (.aload_n 0, 1) := by decide +kernel
theorem dX4_room_12 : decode cX4_room 12 = .ok (.invokevirtual 76, 3) := by decide +kernel
theorem dX4_room_15 : decode cX4_room 15 = .ok (.aload_n 0, 1) := by decide +kernel
theorem dX4_room_16 : decode cX4_room 16 = .ok (.getfield 73, 3) := by decide +kernel
theorem dX4_room_19 : decode cX4_room 19 = .ok (.iload_n 1, 1) := by decide +kernel
theorem dX4_room_20 : decode cX4_room 20 = .ok (.iadd, 1) := by decide +kernel
theorem dX4_room_21 : decode cX4_room 21 = .ok (.bipush 120, 2) := by decide +kernel
theorem dX4_room_23 : decode cX4_room 23 = .ok (.if_icmp .gt 7, 3) := by decide +kernel
theorem dX4_room_26 : decode cX4_room 26 = .ok (.iconst 1, 1) := by decide +kernel
theorem dX4_room_27 : decode cX4_room 27 = .ok (.goto 4, 3) := by decide +kernel
theorem dX4_room_30 : decode cX4_room 30 = .ok (.iconst 0, 1) := by decide +kernel
theorem dX4_room_31 : decode cX4_room 31 = .ok (.ireturn, 1) := by decide +kernel
theorem dX4_enlist_0 : decode cX4_enlist 0 = .ok (.iload_n 1, 1) := by decide +kernel
theorem dX4_enlist_1 : decode cX4_enlist 1 = .ok (.iconst 2, 1) := by decide +kernel
theorem dX4_enlist_2 : decode cX4_enlist 2 = .ok (.if_icmp .ne 62, 3) := by decide +kernel
theorem dX4_enlist_5 : decode cX4_enlist 5 = .ok (.aload_n 0, 1) := by decide +kernel
theorem dX4_enlist_6 : decode cX4_enlist 6 = .ok (.lload_n 2, 1) := by decide +kernel
theorem dX4_enlist_7 : decode cX4_enlist 7 = .ok (.invokevirtual 65, 3) := by decide +kernel
theorem dX4_enlist_10 : decode cX4_enlist 10 = .ok (.istore 4, 2) := by decide +kernel
theorem dX4_enlist_12 : decode cX4_enlist 12 = .ok (.iconst 0, 1) := by decide +kernel
theorem dX4_enlist_13 : decode cX4_enlist 13 = .ok (.istore 5, 2) := by decide +kernel
theorem dX4_enlist_15 : decode cX4_enlist 15 = .ok (.iload 5, 2) := by decide +kernel
theorem dX4_enlist_17 : decode cX4_enlist 17 = .ok (.aload_n 0, 1) := by decide +kernel
theorem dX4_enlist_18 : decode cX4_enlist 18 = .ok (.getfield 79, 3) := by decide +kernel
theorem dX4_enlist_21 : decode cX4_enlist 21 = .ok (.if_icmp .ge 22, 3) := by decide +kernel
theorem dX4_enlist_24 : decode cX4_enlist 24 = .ok (.aload_n 0, 1) := by decide +kernel
theorem dX4_enlist_25 : decode cX4_enlist 25 = .ok (.getfield 26, 3) := by decide +kernel
theorem dX4_enlist_28 : decode cX4_enlist 28 = .ok (.iload 5, 2) := by decide +kernel
theorem dX4_enlist_30 : decode cX4_enlist 30 = .ok (.iaload, 1) := by decide +kernel
theorem dX4_enlist_31 : decode cX4_enlist 31 = .ok (.iload 4, 2) := by decide +kernel
theorem dX4_enlist_33 : decode cX4_enlist 33 = .ok (.if_icmp .ne 4, 3) := by decide +kernel
theorem dX4_enlist_36 : decode cX4_enlist 36 = .ok (.return_, 1) := by decide +kernel
theorem dX4_enlist_37 : decode cX4_enlist 37 = .ok (.iinc 5 1, 3) := by decide +kernel
theorem dX4_enlist_40 : decode cX4_enlist 40 = .ok (.goto (-25), 3) := by decide +kernel
theorem dX4_enlist_43 : decode cX4_enlist 43 = .ok (.aload_n 0, 1) := by decide +kernel
theorem dX4_enlist_44 : decode cX4_enlist 44 = .ok (.getfield 26, 3) := by decide +kernel
theorem dX4_enlist_47 : decode cX4_enlist 47 = .ok (.aload_n 0, 1) := by decide +kernel
theorem dX4_enlist_48 : decode cX4_enlist 48 = .ok (.getfield 79, 3) := by decide +kernel
theorem dX4_enlist_51 : decode cX4_enlist 51 = .ok (.iload 4, 2) := by decide +kernel
theorem dX4_enlist_53 : decode cX4_enlist 53 = .ok (.iastore, 1) := by decide +kernel
theorem dX4_enlist_54 : decode cX4_enlist 54 = .ok (.aload_n 0, 1) := by decide +kernel
theorem dX4_enlist_55 : decode cX4_enlist 55 = .ok (.dup, 1) := by decide +kernel
theorem dX4_enlist_56 : decode cX4_enlist 56 = .ok (.getfield 79, 3) := by decide +kernel
theorem dX4_enlist_59 : decode cX4_enlist 59 = .ok (.iconst 1, 1) := by decide +kernel
theorem dX4_enlist_60 : decode cX4_enlist 60 = .ok (.iadd, 1) := by decide +kernel
theorem dX4_enlist_61 : decode cX4_enlist 61 = .ok (.putfield 79, 3) := by decide +kernel
theorem dX4_enlist_64 : decode cX4_enlist 64 = .ok (.return_, 1) := by decide +kernel
theorem dX4_lay_0 : decode cX4_lay 0 = .ok (.aload_n 0, 1) := by decide +kernel
theorem dX4_lay_1 : decode cX4_lay 1 = .ok (.getfield 32, 3) := by decide +kernel
theorem dX4_lay_4 : decode cX4_lay 4 = .ok (.aload_n 0, 1) := by decide +kernel
theorem dX4_lay_5 : decode cX4_lay 5 = .ok (.getfield 82, 3) := by decide +kernel
theorem dX4_lay_8 : decode cX4_lay 8 = .ok (.iload_n 1, 1) := by decide +kernel
theorem dX4_lay_9 : decode cX4_lay 9 = .ok (.iastore, 1) := by decide +kernel
theorem dX4_lay_10 : decode cX4_lay 10 = .ok (.aload_n 0, 1) := by decide +kernel
theorem dX4_lay_11 : decode cX4_lay 11 = .ok (.getfield 35, 3) := by decide +kernel
theorem dX4_lay_14 : decode cX4_lay 14 = .ok (.aload_n 0, 1) := by decide +kernel
theorem dX4_lay_15 : decode cX4_lay 15 = .ok (.getfield 82, 3) := by decide +kernel
theorem dX4_lay_18 : decode cX4_lay 18 = .ok (.iload_n 2, 1) := by decide +kernel
theorem dX4_lay_19 : decode cX4_lay 19 = .ok (.iastore, 1) := by decide +kernel
theorem dX4_lay_20 : decode cX4_lay 20 = .ok (.aload_n 0, 1) := by decide +kernel
theorem dX4_lay_21 : decode cX4_lay 21 = .ok (.getfield 38, 3) := by decide +kernel
theorem dX4_lay_24 : decode cX4_lay 24 = .ok (.aload_n 0, 1) := by decide +kernel
theorem dX4_lay_25 : decode cX4_lay 25 = .ok (.getfield 82, 3) := by decide +kernel
theorem dX4_lay_28 : decode cX4_lay 28 = .ok (.lload_n 3, 1) := by decide +kernel
theorem dX4_lay_29 : decode cX4_lay 29 = .ok (.lastore, 1) := by decide +kernel
theorem dX4_lay_30 : decode cX4_lay 30 = .ok (.aload_n 0, 1) := by decide +kernel
theorem dX4_lay_31 : decode cX4_lay 31 = .ok (.dup, 1) := by decide +kernel
theorem dX4_lay_32 : decode cX4_lay 32 = .ok (.getfield 82, 3) := by decide +kernel
theorem dX4_lay_35 : decode cX4_lay 35 = .ok (.iconst 1, 1) := by decide +kernel
theorem dX4_lay_36 : decode cX4_lay 36 = .ok (.iadd, 1) := by decide +kernel
theorem dX4_lay_37 : decode cX4_lay 37 = .ok (.putfield 82, 3) := by decide +kernel
theorem dX4_lay_40 : decode cX4_lay 40 = .ok (.return_, 1) := by decide +kernel
theorem dX4_spine_0 : decode cX4_spine 0 = .ok (.iload_n 1, 1) := by decide +kernel
theorem dX4_spine_1 : decode cX4_spine 1 = .ok (.istore_n 2, 1) := by decide +kernel
theorem dX4_spine_2 : decode cX4_spine 2 = .ok (.iload_n 2, 1) := by decide +kernel
theorem dX4_spine_3 : decode cX4_spine 3 = .ok (.ifCond .lt 143, 3) := by decide +kernel
theorem dX4_spine_6 : decode cX4_spine 6 = .ok (.aload_n 0, 1) := by decide +kernel
theorem dX4_spine_7 : decode cX4_spine 7 = .ok (.getfield 29, 3) := by decide +kernel
theorem dX4_spine_10 : decode cX4_spine 10 = .ok (.iload_n 2, 1) := by decide +kernel
theorem dX4_spine_11 : decode cX4_spine 11 = .ok (.iaload, 1) := by decide +kernel
theorem dX4_spine_12 : decode cX4_spine 12 = .ok (.ifCond .ge 134, 3) := by decide +kernel
theorem dX4_spine_15 : decode cX4_spine 15 = .ok (.aload_n 0, 1) := by decide +kernel
theorem dX4_spine_16 : decode cX4_spine 16 = .ok (.getfield 29, 3) := by decide +kernel
theorem dX4_spine_19 : decode cX4_spine 19 = .ok (.iload_n 2, 1) := by decide +kernel
theorem dX4_spine_20 : decode cX4_spine 20 = .ok (.aload_n 0, 1) := by decide +kernel
theorem dX4_spine_21 : decode cX4_spine 21 = .ok (.getfield 82, 3) := by decide +kernel
theorem dX4_spine_24 : decode cX4_spine 24 = .ok (.iastore, 1) := by decide +kernel
theorem dX4_spine_25 : decode cX4_spine 25 = .ok (.aload_n 0, 1) := by decide +kernel
theorem dX4_spine_26 : decode cX4_spine 26 = .ok (.iload_n 2, 1) := by decide +kernel
theorem dX4_spine_27 : decode cX4_spine 27 = .ok (.invokevirtual 85, 3) := by decide +kernel
theorem dX4_spine_30 : decode cX4_spine 30 = .ok (.aload_n 0, 1) := by decide +kernel
theorem dX4_spine_31 : decode cX4_spine 31 = .ok (.getfield 58, 3) := by decide +kernel
theorem dX4_spine_34 : decode cX4_spine 34 = .ok (.istore_n 3, 1) := by decide +kernel
theorem dX4_spine_35 : decode cX4_spine 35 = .ok (.aload_n 0, 1) := by decide +kernel
theorem dX4_spine_36 : decode cX4_spine 36 = .ok (.getfield 61, 3) := by decide +kernel
theorem dX4_spine_39 : decode cX4_spine 39 = .ok (.lstore 4, 2) := by decide +kernel
theorem dX4_spine_41 : decode cX4_spine 41 = .ok (.iload_n 3, 1) := by decide +kernel
theorem dX4_spine_42 : decode cX4_spine 42 = .ok (.iconst 2, 1) := by decide +kernel
theorem dX4_spine_43 : decode cX4_spine 43 = .ok (.if_icmp .ne 12, 3) := by decide +kernel
theorem dX4_spine_46 : decode cX4_spine 46 = .ok (.aload_n 0, 1) := by decide +kernel
theorem dX4_spine_47 : decode cX4_spine 47 = .ok (.lload 4, 2) := by decide +kernel
theorem dX4_spine_49 : decode cX4_spine 49 = .ok (.invokevirtual 65, 3) := by decide +kernel
theorem dX4_spine_52 : decode cX4_spine 52 = .ok (.goto 4, 3) := by decide +kernel
theorem dX4_spine_55 : decode cX4_spine 55 = .ok (.iconst (-1), 1) := by decide +kernel
theorem dX4_spine_56 : decode cX4_spine 56 = .ok (.istore 6, 2) := by decide +kernel
theorem dX4_spine_58 : decode cX4_spine 58 = .ok (.iload 6, 2) := by decide +kernel
theorem dX4_spine_60 : decode cX4_spine 60 = .ok (.ifCond .lt 17, 3) := by decide +kernel
theorem dX4_spine_63 : decode cX4_spine 63 = .ok (.aload_n 0, 1) := by decide +kernel
theorem dX4_spine_64 : decode cX4_spine 64 = .ok (.getfield 29, 3) := by decide +kernel
theorem dX4_spine_67 : decode cX4_spine 67 = .ok (.iload 6, 2) := by decide +kernel
theorem dX4_spine_69 : decode cX4_spine 69 = .ok (.iaload, 1) := by decide +kernel
theorem dX4_spine_70 : decode cX4_spine 70 = .ok (.ifCond .ge 7, 3) := by decide +kernel
theorem dX4_spine_73 : decode cX4_spine 73 = .ok (.iconst 1, 1) := by decide +kernel
theorem dX4_spine_74 : decode cX4_spine 74 = .ok (.goto 4, 3) := by decide +kernel
theorem dX4_spine_77 : decode cX4_spine 77 = .ok (.iconst 0, 1) := by decide +kernel
theorem dX4_spine_78 : decode cX4_spine 78 = .ok (.istore 7, 2) := by decide +kernel
theorem dX4_spine_80 : decode cX4_spine 80 = .ok (.aload_n 0, 1) := by decide +kernel
theorem dX4_spine_81 : decode cX4_spine 81 = .ok (.iload_n 3, 1) := by decide +kernel
theorem dX4_spine_82 : decode cX4_spine 82 = .ok (.ifCond .ne 7, 3) := by decide +kernel
theorem dX4_spine_85 : decode cX4_spine 85 = .ok (.iconst 1, 1) := by decide +kernel
theorem dX4_spine_86 : decode cX4_spine 86 = .ok (.goto 13, 3) := by decide +kernel
theorem dX4_spine_89 : decode cX4_spine 89 = .ok (.iload 7, 2) := by decide +kernel
theorem dX4_spine_91 : decode cX4_spine 91 = .ok (.ifCond .eq 7, 3) := by decide +kernel
theorem dX4_spine_94 : decode cX4_spine 94 = .ok (.iconst 0, 1) := by decide +kernel
theorem dX4_spine_95 : decode cX4_spine 95 = .ok (.goto 4, 3) := by decide +kernel
theorem dX4_spine_98 : decode cX4_spine 98 = .ok (.iconst 2, 1) := by decide +kernel
theorem dX4_spine_99 : decode cX4_spine 99 = .ok (.aload_n 0, 1) := by decide +kernel
theorem dX4_spine_100 : decode cX4_spine 100 = .ok (.getfield 13, 3) := by decide +kernel
theorem dX4_spine_103 : decode cX4_spine 103 = .ok (.iload_n 2, 1) := by decide +kernel
theorem dX4_spine_104 : decode cX4_spine 104 = .ok (.iaload, 1) := by decide +kernel
theorem dX4_spine_105 : decode cX4_spine 105 = .ok (.aload_n 0, 1) := by decide +kernel
theorem dX4_spine_106 : decode cX4_spine 106 = .ok (.getfield 16, 3) := by decide +kernel
theorem dX4_spine_109 : decode cX4_spine 109 = .ok (.iload_n 2, 1) := by decide +kernel
theorem dX4_spine_110 : decode cX4_spine 110 = .ok (.laload, 1) := by decide +kernel
theorem dX4_spine_111 : decode cX4_spine 111 = .ok (.invokevirtual 89, 3) := by decide +kernel
theorem dX4_spine_114 : decode cX4_spine 114 = .ok (.iload_n 3, 1) := by decide +kernel
theorem dX4_spine_115 : decode cX4_spine 115 = .ok (.ifCond .eq 16, 3) := by decide +kernel
theorem dX4_spine_118 : decode cX4_spine 118 = .ok (.iload 7, 2) := by decide +kernel
theorem dX4_spine_120 : decode cX4_spine 120 = .ok (.ifCond .ne 11, 3) := by decide +kernel
theorem dX4_spine_123 : decode cX4_spine 123 = .ok (.aload_n 0, 1) := by decide +kernel
theorem dX4_spine_124 : decode cX4_spine 124 = .ok (.iconst 3, 1) := by decide +kernel
theorem dX4_spine_125 : decode cX4_spine 125 = .ok (.iload_n 3, 1) := by decide +kernel
theorem dX4_spine_126 : decode cX4_spine 126 = .ok (.lload 4, 2) := by decide +kernel
theorem dX4_spine_128 : decode cX4_spine 128 = .ok (.invokevirtual 89, 3) := by decide +kernel
theorem dX4_spine_131 : decode cX4_spine 131 = .ok (.iload 7, 2) := by decide +kernel
theorem dX4_spine_133 : decode cX4_spine 133 = .ok (.ifCond .eq 8, 3) := by decide +kernel
theorem dX4_spine_136 : decode cX4_spine 136 = .ok (.iload 6, 2) := by decide +kernel
theorem dX4_spine_138 : decode cX4_spine 138 = .ok (.goto 4, 3) := by decide +kernel
theorem dX4_spine_141 : decode cX4_spine 141 = .ok (.iconst (-1), 1) := by decide +kernel
theorem dX4_spine_142 : decode cX4_spine 142 = .ok (.istore_n 2, 1) := by decide +kernel
theorem dX4_spine_143 : decode cX4_spine 143 = .ok (.goto (-141), 3) := by decide +kernel
theorem dX4_spine_146 : decode cX4_spine 146 = .ok (.return_, 1) := by decide +kernel
theorem dX4_gather_0 : decode cX4_gather 0 = .ok (.aload_n 0, 1) := by decide +kernel
theorem dX4_gather_1 : decode cX4_gather 1 = .ok (.dup, 1) := by decide +kernel
theorem dX4_gather_2 : decode cX4_gather 2 = .ok (.getfield 93, 3) := by decide +kernel
theorem dX4_gather_5 : decode cX4_gather 5 = .ok (.iconst 1, 1) := by decide +kernel
theorem dX4_gather_6 : decode cX4_gather 6 = .ok (.iadd, 1) := by decide +kernel
theorem dX4_gather_7 : decode cX4_gather 7 = .ok (.putfield 93, 3) := by decide +kernel
theorem dX4_gather_10 : decode cX4_gather 10 = .ok (.aload_n 0, 1) := by decide +kernel
theorem dX4_gather_11 : decode cX4_gather 11 = .ok (.iconst 0, 1) := by decide +kernel
theorem dX4_gather_12 : decode cX4_gather 12 = .ok (.putfield 79, 3) := by decide +kernel
theorem dX4_gather_15 : decode cX4_gather 15 = .ok (.aload_n 0, 1) := by decide +kernel
theorem dX4_gather_16 : decode cX4_gather 16 = .ok (.iconst 0, 1) := by decide +kernel
theorem dX4_gather_17 : decode cX4_gather 17 = .ok (.putfield 82, 3) := by decide +kernel
theorem dX4_gather_20 : decode cX4_gather 20 = .ok (.iconst 0, 1) := by decide +kernel
theorem dX4_gather_21 : decode cX4_gather 21 = .ok (.istore_n 1, 1) := by decide +kernel
theorem dX4_gather_22 : decode cX4_gather 22 = .ok (.iload_n 1, 1) := by decide +kernel
theorem dX4_gather_23 : decode cX4_gather 23 = .ok (.bipush 120, 2) := by decide +kernel
theorem dX4_gather_25 : decode cX4_gather 25 = .ok (.if_icmp .ge 23, 3) := by decide +kernel
theorem dX4_gather_28 : decode cX4_gather 28 = .ok (.aload_n 0, 1) := by decide +kernel
theorem dX4_gather_29 : decode cX4_gather 29 = .ok (.getfield 29, 3) := by decide +kernel
theorem dX4_gather_32 : decode cX4_gather 32 = .ok (.iload_n 1, 1) := by decide +kernel
theorem dX4_gather_33 : decode cX4_gather 33 = .ok (.iconst (-1), 1) := by decide +kernel
theorem dX4_gather_34 : decode cX4_gather 34 = .ok (.iastore, 1) := by decide +kernel
theorem dX4_gather_35 : decode cX4_gather 35 = .ok (.aload_n 0, 1) := by decide +kernel
theorem dX4_gather_36 : decode cX4_gather 36 = .ok (.getfield 50, 3) := by decide +kernel
theorem dX4_gather_39 : decode cX4_gather 39 = .ok (.iload_n 1, 1) := by decide +kernel
theorem dX4_gather_40 : decode cX4_gather 40 = .ok (.iconst 0, 1) := by decide +kernel
theorem dX4_gather_41 : decode cX4_gather 41 = .ok (.bastore, 1) := by decide +kernel
theorem dX4_gather_42 : decode cX4_gather 42 = .ok (.iinc 1 1, 3) := by decide +kernel
theorem dX4_gather_45 : decode cX4_gather 45 = .ok (.goto (-23), 3) := by decide +kernel
theorem dX4_gather_48 : decode cX4_gather 48 = .ok (.iconst 0, 1) := by decide +kernel
theorem dX4_gather_49 : decode cX4_gather 49 = .ok (.istore_n 1, 1) := by decide +kernel
theorem dX4_gather_50 : decode cX4_gather 50 = .ok (.iload_n 1, 1) := by decide +kernel
theorem dX4_gather_51 : decode cX4_gather 51 = .ok (.bipush 10, 2) := by decide +kernel
theorem dX4_gather_53 : decode cX4_gather 53 = .ok (.if_icmp .ge 25, 3) := by decide +kernel
theorem dX4_gather_56 : decode cX4_gather 56 = .ok (.aload_n 0, 1) := by decide +kernel
theorem dX4_gather_57 : decode cX4_gather 57 = .ok (.aload_n 0, 1) := by decide +kernel
theorem dX4_gather_58 : decode cX4_gather 58 = .ok (.getfield 20, 3) := by decide +kernel
theorem dX4_gather_61 : decode cX4_gather 61 = .ok (.iload_n 1, 1) := by decide +kernel
theorem dX4_gather_62 : decode cX4_gather 62 = .ok (.iaload, 1) := by decide +kernel
theorem dX4_gather_63 : decode cX4_gather 63 = .ok (.aload_n 0, 1) := by decide +kernel
theorem dX4_gather_64 : decode cX4_gather 64 = .ok (.getfield 23, 3) := by decide +kernel
theorem dX4_gather_67 : decode cX4_gather 67 = .ok (.iload_n 1, 1) := by decide +kernel
theorem dX4_gather_68 : decode cX4_gather 68 = .ok (.laload, 1) := by decide +kernel
theorem dX4_gather_69 : decode cX4_gather 69 = .ok (.invokevirtual 96, 3) := by decide +kernel
theorem dX4_gather_72 : decode cX4_gather 72 = .ok (.iinc 1 1, 3) := by decide +kernel
theorem dX4_gather_75 : decode cX4_gather 75 = .ok (.goto (-25), 3) := by decide +kernel
theorem dX4_gather_78 : decode cX4_gather 78 = .ok (.iconst 0, 1) := by decide +kernel
theorem dX4_gather_79 : decode cX4_gather 79 = .ok (.istore_n 1, 1) := by decide +kernel
theorem dX4_gather_80 : decode cX4_gather 80 = .ok (.iload_n 1, 1) := by decide +kernel
theorem dX4_gather_81 : decode cX4_gather 81 = .ok (.aload_n 0, 1) := by decide +kernel
theorem dX4_gather_82 : decode cX4_gather 82 = .ok (.getfield 79, 3) := by decide +kernel
theorem dX4_gather_85 : decode cX4_gather 85 = .ok (.if_icmp .ge 49, 3) := by decide +kernel
theorem dX4_gather_88 : decode cX4_gather 88 = .ok (.aload_n 0, 1) := by decide +kernel
theorem dX4_gather_89 : decode cX4_gather 89 = .ok (.getfield 26, 3) := by decide +kernel
theorem dX4_gather_92 : decode cX4_gather 92 = .ok (.iload_n 1, 1) := by decide +kernel
theorem dX4_gather_93 : decode cX4_gather 93 = .ok (.iaload, 1) := by decide +kernel
theorem dX4_gather_94 : decode cX4_gather 94 = .ok (.istore_n 2, 1) := by decide +kernel
theorem dX4_gather_95 : decode cX4_gather 95 = .ok (.aload_n 0, 1) := by decide +kernel
theorem dX4_gather_96 : decode cX4_gather 96 = .ok (.aload_n 0, 1) := by decide +kernel
theorem dX4_gather_97 : decode cX4_gather 97 = .ok (.getfield 13, 3) := by decide +kernel
theorem dX4_gather_100 : decode cX4_gather 100 = .ok (.iload_n 2, 1) := by decide +kernel
theorem dX4_gather_101 : decode cX4_gather 101 = .ok (.iaload, 1) := by decide +kernel
theorem dX4_gather_102 : decode cX4_gather 102 = .ok (.aload_n 0, 1) := by decide +kernel
theorem dX4_gather_103 : decode cX4_gather 103 = .ok (.getfield 16, 3) := by decide +kernel
theorem dX4_gather_106 : decode cX4_gather 106 = .ok (.iload_n 2, 1) := by decide +kernel
theorem dX4_gather_107 : decode cX4_gather 107 = .ok (.laload, 1) := by decide +kernel
theorem dX4_gather_108 : decode cX4_gather 108 = .ok (.invokevirtual 96, 3) := by decide +kernel
theorem dX4_gather_111 : decode cX4_gather 111 = .ok (.aload_n 0, 1) := by decide +kernel
theorem dX4_gather_112 : decode cX4_gather 112 = .ok (.iload_n 2, 1) := by decide +kernel
theorem dX4_gather_113 : decode cX4_gather 113 = .ok (.invokevirtual 85, 3) := by decide +kernel
theorem dX4_gather_116 : decode cX4_gather 116 = .ok (.aload_n 0, 1) := by decide +kernel
theorem dX4_gather_117 : decode cX4_gather 117 = .ok (.aload_n 0, 1) := by decide +kernel
theorem dX4_gather_118 : decode cX4_gather 118 = .ok (.getfield 58, 3) := by decide +kernel
theorem dX4_gather_121 : decode cX4_gather 121 = .ok (.aload_n 0, 1) := by decide +kernel
theorem dX4_gather_122 : decode cX4_gather 122 = .ok (.getfield 61, 3) := by decide +kernel
theorem dX4_gather_125 : decode cX4_gather 125 = .ok (.invokevirtual 96, 3) := by decide +kernel
theorem dX4_gather_128 : decode cX4_gather 128 = .ok (.iinc 1 1, 3) := by decide +kernel
theorem dX4_gather_131 : decode cX4_gather 131 = .ok (.goto (-51), 3) := by decide +kernel
theorem dX4_gather_134 : decode cX4_gather 134 = .ok (.iconst 0, 1) := by decide +kernel
theorem dX4_gather_135 : decode cX4_gather 135 = .ok (.istore_n 1, 1) := by decide +kernel
theorem dX4_gather_136 : decode cX4_gather 136 = .ok (.iload_n 1, 1) := by decide +kernel
theorem dX4_gather_137 : decode cX4_gather 137 = .ok (.aload_n 0, 1) := by decide +kernel
theorem dX4_gather_138 : decode cX4_gather 138 = .ok (.getfield 79, 3) := by decide +kernel
theorem dX4_gather_141 : decode cX4_gather 141 = .ok (.if_icmp .ge 41, 3) := by decide +kernel
theorem dX4_gather_144 : decode cX4_gather 144 = .ok (.aload_n 0, 1) := by decide +kernel
theorem dX4_gather_145 : decode cX4_gather 145 = .ok (.aload_n 0, 1) := by decide +kernel
theorem dX4_gather_146 : decode cX4_gather 146 = .ok (.getfield 26, 3) := by decide +kernel
theorem dX4_gather_149 : decode cX4_gather 149 = .ok (.iload_n 1, 1) := by decide +kernel
theorem dX4_gather_150 : decode cX4_gather 150 = .ok (.iaload, 1) := by decide +kernel
theorem dX4_gather_151 : decode cX4_gather 151 = .ok (.invokevirtual 85, 3) := by decide +kernel
theorem dX4_gather_154 : decode cX4_gather 154 = .ok (.aload_n 0, 1) := by decide +kernel
theorem dX4_gather_155 : decode cX4_gather 155 = .ok (.getfield 58, 3) := by decide +kernel
theorem dX4_gather_158 : decode cX4_gather 158 = .ok (.iconst 2, 1) := by decide +kernel
theorem dX4_gather_159 : decode cX4_gather 159 = .ok (.if_icmp .ne 17, 3) := by decide +kernel
theorem dX4_gather_162 : decode cX4_gather 162 = .ok (.aload_n 0, 1) := by decide +kernel
theorem dX4_gather_163 : decode cX4_gather 163 = .ok (.getfield 50, 3) := by decide +kernel
theorem dX4_gather_166 : decode cX4_gather 166 = .ok (.aload_n 0, 1) := by decide +kernel
theorem dX4_gather_167 : decode cX4_gather 167 = .ok (.aload_n 0, 1) := by decide +kernel
theorem dX4_gather_168 : decode cX4_gather 168 = .ok (.getfield 61, 3) := by decide +kernel
theorem dX4_gather_171 : decode cX4_gather 171 = .ok (.invokevirtual 65, 3) := by decide +kernel
theorem dX4_gather_174 : decode cX4_gather 174 = .ok (.iconst 1, 1) := by decide +kernel
theorem dX4_gather_175 : decode cX4_gather 175 = .ok (.bastore, 1) := by decide +kernel
theorem dX4_gather_176 : decode cX4_gather 176 = .ok (.iinc 1 1, 3) := by decide +kernel
theorem dX4_gather_179 : decode cX4_gather 179 = .ok (.goto (-43), 3) := by decide +kernel
theorem dX4_gather_182 : decode cX4_gather 182 = .ok (.iconst 0, 1) := by decide +kernel
theorem dX4_gather_183 : decode cX4_gather 183 = .ok (.istore_n 1, 1) := by decide +kernel
theorem dX4_gather_184 : decode cX4_gather 184 = .ok (.iload_n 1, 1) := by decide +kernel
theorem dX4_gather_185 : decode cX4_gather 185 = .ok (.iconst 2, 1) := by decide +kernel
theorem dX4_gather_186 : decode cX4_gather 186 = .ok (.if_icmp .ge 54, 3) := by decide +kernel
theorem dX4_gather_189 : decode cX4_gather 189 = .ok (.iconst 0, 1) := by decide +kernel
theorem dX4_gather_190 : decode cX4_gather 190 = .ok (.istore_n 2, 1) := by decide +kernel
theorem dX4_gather_191 : decode cX4_gather 191 = .ok (.iload_n 2, 1) := by decide +kernel
theorem dX4_gather_192 : decode cX4_gather 192 = .ok (.aload_n 0, 1) := by decide +kernel
theorem dX4_gather_193 : decode cX4_gather 193 = .ok (.getfield 79, 3) := by decide +kernel
theorem dX4_gather_196 : decode cX4_gather 196 = .ok (.if_icmp .ge 38, 3) := by decide +kernel
theorem dX4_gather_199 : decode cX4_gather 199 = .ok (.iload_n 1, 1) := by decide +kernel
theorem dX4_gather_200 : decode cX4_gather 200 = .ok (.iconst 1, 1) := by decide +kernel
theorem dX4_gather_201 : decode cX4_gather 201 = .ok (.if_icmp .eq 17, 3) := by decide +kernel
theorem dX4_gather_204 : decode cX4_gather 204 = .ok (.aload_n 0, 1) := by decide +kernel
theorem dX4_gather_205 : decode cX4_gather 205 = .ok (.getfield 50, 3) := by decide +kernel
theorem dX4_gather_208 : decode cX4_gather 208 = .ok (.aload_n 0, 1) := by decide +kernel
theorem dX4_gather_209 : decode cX4_gather 209 = .ok (.getfield 26, 3) := by decide +kernel
theorem dX4_gather_212 : decode cX4_gather 212 = .ok (.iload_n 2, 1) := by decide +kernel
theorem dX4_gather_213 : decode cX4_gather 213 = .ok (.iaload, 1) := by decide +kernel
theorem dX4_gather_214 : decode cX4_gather 214 = .ok (.baload, 1) := by decide +kernel
theorem dX4_gather_215 : decode cX4_gather 215 = .ok (.ifCond .ne 13, 3) := by decide +kernel
theorem dX4_gather_218 : decode cX4_gather 218 = .ok (.aload_n 0, 1) := by decide +kernel
theorem dX4_gather_219 : decode cX4_gather 219 = .ok (.aload_n 0, 1) := by decide +kernel
theorem dX4_gather_220 : decode cX4_gather 220 = .ok (.getfield 26, 3) := by decide +kernel
theorem dX4_gather_223 : decode cX4_gather 223 = .ok (.iload_n 2, 1) := by decide +kernel
theorem dX4_gather_224 : decode cX4_gather 224 = .ok (.iaload, 1) := by decide +kernel
theorem dX4_gather_225 : decode cX4_gather 225 = .ok (.invokevirtual 99, 3) := by decide +kernel
theorem dX4_gather_228 : decode cX4_gather 228 = .ok (.iinc 2 1, 3) := by decide +kernel
theorem dX4_gather_231 : decode cX4_gather 231 = .ok (.goto (-40), 3) := by decide +kernel
theorem dX4_gather_234 : decode cX4_gather 234 = .ok (.iinc 1 1, 3) := by decide +kernel
theorem dX4_gather_237 : decode cX4_gather 237 = .ok (.goto (-53), 3) := by decide +kernel
theorem dX4_gather_240 : decode cX4_gather 240 = .ok (.iconst 0, 1) := by decide +kernel
theorem dX4_gather_241 : decode cX4_gather 241 = .ok (.istore_n 1, 1) := by decide +kernel
theorem dX4_gather_242 : decode cX4_gather 242 = .ok (.iload_n 1, 1) := by decide +kernel
theorem dX4_gather_243 : decode cX4_gather 243 = .ok (.aload_n 0, 1) := by decide +kernel
theorem dX4_gather_244 : decode cX4_gather 244 = .ok (.getfield 82, 3) := by decide +kernel
theorem dX4_gather_247 : decode cX4_gather 247 = .ok (.if_icmp .ge 50, 3) := by decide +kernel
theorem dX4_gather_250 : decode cX4_gather 250 = .ok (.aload_n 0, 1) := by decide +kernel
theorem dX4_gather_251 : decode cX4_gather 251 = .ok (.getfield 38, 3) := by decide +kernel
theorem dX4_gather_254 : decode cX4_gather 254 = .ok (.iload_n 1, 1) := by decide +kernel
theorem dX4_gather_255 : decode cX4_gather 255 = .ok (.aload_n 0, 1) := by decide +kernel
theorem dX4_gather_256 : decode cX4_gather 256 = .ok (.getfield 35, 3) := by decide +kernel
theorem dX4_gather_259 : decode cX4_gather 259 = .ok (.iload_n 1, 1) := by decide +kernel
theorem dX4_gather_260 : decode cX4_gather 260 = .ok (.iaload, 1) := by decide +kernel
theorem dX4_gather_261 : decode cX4_gather 261 = .ok (.iconst 2, 1) := by decide +kernel
theorem dX4_gather_262 : decode cX4_gather 262 = .ok (.if_icmp .ne 22, 3) := by decide +kernel
theorem dX4_gather_265 : decode cX4_gather 265 = .ok (.aload_n 0, 1) := by decide +kernel
theorem dX4_gather_266 : decode cX4_gather 266 = .ok (.getfield 29, 3) := by decide +kernel
theorem dX4_gather_269 : decode cX4_gather 269 = .ok (.aload_n 0, 1) := by decide +kernel
theorem dX4_gather_270 : decode cX4_gather 270 = .ok (.aload_n 0, 1) := by decide +kernel
theorem dX4_gather_271 : decode cX4_gather 271 = .ok (.getfield 38, 3) := by decide +kernel
theorem dX4_gather_274 : decode cX4_gather 274 = .ok (.iload_n 1, 1) := by decide +kernel
theorem dX4_gather_275 : decode cX4_gather 275 = .ok (.laload, 1) := by decide +kernel
theorem dX4_gather_276 : decode cX4_gather 276 = .ok (.invokevirtual 65, 3) := by decide +kernel
theorem dX4_gather_279 : decode cX4_gather 279 = .ok (.iaload, 1) := by decide +kernel
theorem dX4_gather_280 : decode cX4_gather 280 = .ok (.i2l, 1) := by decide +kernel
theorem dX4_gather_281 : decode cX4_gather 281 = .ok (.goto 9, 3) := by decide +kernel
theorem dX4_gather_284 : decode cX4_gather 284 = .ok (.aload_n 0, 1) := by decide +kernel
theorem dX4_gather_285 : decode cX4_gather 285 = .ok (.getfield 38, 3) := by decide +kernel
theorem dX4_gather_288 : decode cX4_gather 288 = .ok (.iload_n 1, 1) := by decide +kernel
theorem dX4_gather_289 : decode cX4_gather 289 = .ok (.laload, 1) := by decide +kernel
theorem dX4_gather_290 : decode cX4_gather 290 = .ok (.lastore, 1) := by decide +kernel
theorem dX4_gather_291 : decode cX4_gather 291 = .ok (.iinc 1 1, 3) := by decide +kernel
theorem dX4_gather_294 : decode cX4_gather 294 = .ok (.goto (-52), 3) := by decide +kernel
theorem dX4_gather_297 : decode cX4_gather 297 = .ok (.iconst 0, 1) := by decide +kernel
theorem dX4_gather_298 : decode cX4_gather 298 = .ok (.istore_n 1, 1) := by decide +kernel
theorem dX4_gather_299 : decode cX4_gather 299 = .ok (.iload_n 1, 1) := by decide +kernel
theorem dX4_gather_300 : decode cX4_gather 300 = .ok (.bipush 10, 2) := by decide +kernel
theorem dX4_gather_302 : decode cX4_gather 302 = .ok (.if_icmp .ge 50, 3) := by decide +kernel
theorem dX4_gather_305 : decode cX4_gather 305 = .ok (.aload_n 0, 1) := by decide +kernel
theorem dX4_gather_306 : decode cX4_gather 306 = .ok (.getfield 23, 3) := by decide +kernel
theorem dX4_gather_309 : decode cX4_gather 309 = .ok (.iload_n 1, 1) := by decide +kernel
theorem dX4_gather_310 : decode cX4_gather 310 = .ok (.aload_n 0, 1) := by decide +kernel
theorem dX4_gather_311 : decode cX4_gather 311 = .ok (.getfield 20, 3) := by decide +kernel
theorem dX4_gather_314 : decode cX4_gather 314 = .ok (.iload_n 1, 1) := by decide +kernel
theorem dX4_gather_315 : decode cX4_gather 315 = .ok (.iaload, 1) := by decide +kernel
theorem dX4_gather_316 : decode cX4_gather 316 = .ok (.iconst 2, 1) := by decide +kernel
theorem dX4_gather_317 : decode cX4_gather 317 = .ok (.if_icmp .ne 22, 3) := by decide +kernel
theorem dX4_gather_320 : decode cX4_gather 320 = .ok (.aload_n 0, 1) := by decide +kernel
theorem dX4_gather_321 : decode cX4_gather 321 = .ok (.getfield 29, 3) := by decide +kernel
theorem dX4_gather_324 : decode cX4_gather 324 = .ok (.aload_n 0, 1) := by decide +kernel
theorem dX4_gather_325 : decode cX4_gather 325 = .ok (.aload_n 0, 1) := by decide +kernel
theorem dX4_gather_326 : decode cX4_gather 326 = .ok (.getfield 23, 3) := by decide +kernel
theorem dX4_gather_329 : decode cX4_gather 329 = .ok (.iload_n 1, 1) := by decide +kernel
theorem dX4_gather_330 : decode cX4_gather 330 = .ok (.laload, 1) := by decide +kernel
theorem dX4_gather_331 : decode cX4_gather 331 = .ok (.invokevirtual 65, 3) := by decide +kernel
theorem dX4_gather_334 : decode cX4_gather 334 = .ok (.iaload, 1) := by decide +kernel
theorem dX4_gather_335 : decode cX4_gather 335 = .ok (.i2l, 1) := by decide +kernel
theorem dX4_gather_336 : decode cX4_gather 336 = .ok (.goto 9, 3) := by decide +kernel
theorem dX4_gather_339 : decode cX4_gather 339 = .ok (.aload_n 0, 1) := by decide +kernel
theorem dX4_gather_340 : decode cX4_gather 340 = .ok (.getfield 23, 3) := by decide +kernel
theorem dX4_gather_343 : decode cX4_gather 343 = .ok (.iload_n 1, 1) := by decide +kernel
theorem dX4_gather_344 : decode cX4_gather 344 = .ok (.laload, 1) := by decide +kernel
theorem dX4_gather_345 : decode cX4_gather 345 = .ok (.lastore, 1) := by decide +kernel
theorem dX4_gather_346 : decode cX4_gather 346 = .ok (.iinc 1 1, 3) := by decide +kernel
theorem dX4_gather_349 : decode cX4_gather 349 = .ok (.goto (-50), 3) := by decide +kernel
theorem dX4_gather_352 : decode cX4_gather 352 = .ok (.aload_n 0, 1) := by decide +kernel
theorem dX4_gather_353 : decode cX4_gather 353 = .ok (.aload_n 0, 1) := by decide +kernel
theorem dX4_gather_354 : decode cX4_gather 354 = .ok (.getfield 82, 3) := by decide +kernel
theorem dX4_gather_357 : decode cX4_gather 357 = .ok (.putfield 73, 3) := by decide +kernel
theorem dX4_gather_360 : decode cX4_gather 360 = .ok (.iconst 0, 1) := by decide +kernel
theorem dX4_gather_361 : decode cX4_gather 361 = .ok (.istore_n 1, 1) := by decide +kernel
theorem dX4_gather_362 : decode cX4_gather 362 = .ok (.iload_n 1, 1) := by decide +kernel
theorem dX4_gather_363 : decode cX4_gather 363 = .ok (.aload_n 0, 1) := by decide +kernel
theorem dX4_gather_364 : decode cX4_gather 364 = .ok (.getfield 73, 3) := by decide +kernel
theorem dX4_gather_367 : decode cX4_gather 367 = .ok (.if_icmp .ge 45, 3) := by decide +kernel
theorem dX4_gather_370 : decode cX4_gather 370 = .ok (.aload_n 0, 1) := by decide +kernel
theorem dX4_gather_371 : decode cX4_gather 371 = .ok (.getfield 7, 3) := by decide +kernel
theorem dX4_gather_374 : decode cX4_gather 374 = .ok (.iload_n 1, 1) := by decide +kernel
theorem dX4_gather_375 : decode cX4_gather 375 = .ok (.aload_n 0, 1) := by decide +kernel
theorem dX4_gather_376 : decode cX4_gather 376 = .ok (.getfield 32, 3) := by decide +kernel
theorem dX4_gather_379 : decode cX4_gather 379 = .ok (.iload_n 1, 1) := by decide +kernel
theorem dX4_gather_380 : decode cX4_gather 380 = .ok (.iaload, 1) := by decide +kernel
theorem dX4_gather_381 : decode cX4_gather 381 = .ok (.iastore, 1) := by decide +kernel
theorem dX4_gather_382 : decode cX4_gather 382 = .ok (.aload_n 0, 1) := by decide +kernel
theorem dX4_gather_383 : decode cX4_gather 383 = .ok (.getfield 13, 3) := by decide +kernel
theorem dX4_gather_386 : decode cX4_gather 386 = .ok (.iload_n 1, 1) := by decide +kernel
theorem dX4_gather_387 : decode cX4_gather 387 = .ok (.aload_n 0, 1) := by decide +kernel
theorem dX4_gather_388 : decode cX4_gather 388 = .ok (.getfield 35, 3) := by decide +kernel
theorem dX4_gather_391 : decode cX4_gather 391 = .ok (.iload_n 1, 1) := by decide +kernel
theorem dX4_gather_392 : decode cX4_gather 392 = .ok (.iaload, 1) := by decide +kernel
theorem dX4_gather_393 : decode cX4_gather 393 = .ok (.iastore, 1) := by decide +kernel
theorem dX4_gather_394 : decode cX4_gather 394 = .ok (.aload_n 0, 1) := by decide +kernel
theorem dX4_gather_395 : decode cX4_gather 395 = .ok (.getfield 16, 3) := by decide +kernel
theorem dX4_gather_398 : decode cX4_gather 398 = .ok (.iload_n 1, 1) := by decide +kernel
theorem dX4_gather_399 : decode cX4_gather 399 = .ok (.aload_n 0, 1) := by decide +kernel
theorem dX4_gather_400 : decode cX4_gather 400 = .ok (.getfield 38, 3) := by decide +kernel
theorem dX4_gather_403 : decode cX4_gather 403 = .ok (.iload_n 1, 1) := by decide +kernel
theorem dX4_gather_404 : decode cX4_gather 404 = .ok (.laload, 1) := by decide +kernel
theorem dX4_gather_405 : decode cX4_gather 405 = .ok (.lastore, 1) := by decide +kernel
theorem dX4_gather_406 : decode cX4_gather 406 = .ok (.iinc 1 1, 3) := by decide +kernel
theorem dX4_gather_409 : decode cX4_gather 409 = .ok (.goto (-47), 3) := by decide +kernel
theorem dX4_gather_412 : decode cX4_gather 412 = .ok (.return_, 1) := by decide +kernel
theorem dX4_number_0 : decode cX4_number 0 = .ok (.aload_n 0, 1) := by decide +kernel
theorem dX4_number_1 : decode cX4_number 1 = .ok (.iload_n 1, 1) := by decide +kernel
theorem dX4_number_2 : decode cX4_number 2 = .ok (.invokestatic 102, 3) := by decide +kernel
theorem dX4_number_5 : decode cX4_number 5 = .ok (.lload_n 2, 1) := by decide +kernel
theorem dX4_number_6 : decode cX4_number 6 = .ok (.ldc2_w 106, 3) := by decide +kernel
theorem dX4_number_9 : decode cX4_number 9 = .ok (.lcmp, 1) := by decide +kernel
theorem dX4_number_10 : decode cX4_number 10 = .ok (.ifCond .lt 11, 3) := by decide +kernel
theorem dX4_number_13 : decode cX4_number 13 = .ok (.lload_n 2, 1) := by decide +kernel
theorem dX4_number_14 : decode cX4_number 14 = .ok (.ldc2_w 108, 3) := by decide +kernel
theorem dX4_number_17 : decode cX4_number 17 = .ok (.lcmp, 1) := by decide +kernel
theorem dX4_number_18 : decode cX4_number 18 = .ok (.ifCond .le 7, 3) := by decide +kernel
theorem dX4_number_21 : decode cX4_number 21 = .ok (.iconst 1, 1) := by decide +kernel
theorem dX4_number_22 : decode cX4_number 22 = .ok (.goto 4, 3) := by decide +kernel
theorem dX4_number_25 : decode cX4_number 25 = .ok (.iconst 0, 1) := by decide +kernel
theorem dX4_number_26 : decode cX4_number 26 = .ok (.invokevirtual 110, 3) := by decide +kernel
theorem dX4_number_29 : decode cX4_number 29 = .ok (.ifCond .ne 10, 3) := by decide +kernel
theorem dX4_number_32 : decode cX4_number 32 = .ok (.aload_n 0, 1) := by decide +kernel
theorem dX4_number_33 : decode cX4_number 33 = .ok (.iload_n 1, 1) := by decide +kernel
theorem dX4_number_34 : decode cX4_number 34 = .ok (.iconst 1, 1) := by decide +kernel
theorem dX4_number_35 : decode cX4_number 35 = .ok (.lload_n 2, 1) := by decide +kernel
theorem dX4_number_36 : decode cX4_number 36 = .ok (.invokevirtual 114, 3) := by decide +kernel
theorem dX4_number_39 : decode cX4_number 39 = .ok (.return_, 1) := by decide +kernel
theorem dX4_drop_0 : decode cX4_drop 0 = .ok (.aload_n 0, 1) := by decide +kernel
theorem dX4_drop_1 : decode cX4_drop 1 = .ok (.iload_n 1, 1) := by decide +kernel
theorem dX4_drop_2 : decode cX4_drop 2 = .ok (.invokestatic 102, 3) := by decide +kernel
theorem dX4_drop_5 : decode cX4_drop 5 = .ok (.iconst 0, 1) := by decide +kernel
theorem dX4_drop_6 : decode cX4_drop 6 = .ok (.invokevirtual 110, 3) := by decide +kernel
theorem dX4_drop_9 : decode cX4_drop 9 = .ok (.ifCond .ne 10, 3) := by decide +kernel
theorem dX4_drop_12 : decode cX4_drop 12 = .ok (.aload_n 0, 1) := by decide +kernel
theorem dX4_drop_13 : decode cX4_drop 13 = .ok (.iload_n 1, 1) := by decide +kernel
theorem dX4_drop_14 : decode cX4_drop 14 = .ok (.iconst 0, 1) := by decide +kernel
theorem dX4_drop_15 : decode cX4_drop 15 = .ok (.lconst 0, 1) := by decide +kernel
theorem dX4_drop_16 : decode cX4_drop 16 = .ok (.invokevirtual 114, 3) := by decide +kernel
theorem dX4_drop_19 : decode cX4_drop 19 = .ok (.return_, 1) := by decide +kernel
theorem dX4_copy_0 : decode cX4_copy 0 = .ok (.aload_n 0, 1) := by decide +kernel
theorem dX4_copy_1 : decode cX4_copy 1 = .ok (.iload_n 1, 1) := by decide +kernel
theorem dX4_copy_2 : decode cX4_copy 2 = .ok (.invokestatic 102, 3) := by decide +kernel
theorem dX4_copy_5 : decode cX4_copy 5 = .ok (.ifCond .ne 10, 3) := by decide +kernel
theorem dX4_copy_8 : decode cX4_copy 8 = .ok (.iload_n 2, 1) := by decide +kernel
theorem dX4_copy_9 : decode cX4_copy 9 = .ok (.invokestatic 102, 3) := by decide +kernel
theorem dX4_copy_12 : decode cX4_copy 12 = .ok (.ifCond .eq 7, 3) := by decide +kernel
theorem dX4_copy_15 : decode cX4_copy 15 = .ok (.iconst 1, 1) := by decide +kernel
theorem dX4_copy_16 : decode cX4_copy 16 = .ok (.goto 4, 3) := by decide +kernel
theorem dX4_copy_19 : decode cX4_copy 19 = .ok (.iconst 0, 1) := by decide +kernel
theorem dX4_copy_20 : decode cX4_copy 20 = .ok (.iconst 0, 1) := by decide +kernel
theorem dX4_copy_21 : decode cX4_copy 21 = .ok (.invokevirtual 110, 3) := by decide +kernel
theorem dX4_copy_24 : decode cX4_copy 24 = .ok (.ifCond .ne 20, 3) := by decide +kernel
theorem dX4_copy_27 : decode cX4_copy 27 = .ok (.aload_n 0, 1) := by decide +kernel
theorem dX4_copy_28 : decode cX4_copy 28 = .ok (.iload_n 1, 1) := by decide +kernel
theorem dX4_copy_29 : decode cX4_copy 29 = .ok (.aload_n 0, 1) := by decide +kernel
theorem dX4_copy_30 : decode cX4_copy 30 = .ok (.getfield 20, 3) := by decide +kernel
theorem dX4_copy_33 : decode cX4_copy 33 = .ok (.iload_n 2, 1) := by decide +kernel
theorem dX4_copy_34 : decode cX4_copy 34 = .ok (.iaload, 1) := by decide +kernel
theorem dX4_copy_35 : decode cX4_copy 35 = .ok (.aload_n 0, 1) := by decide +kernel
theorem dX4_copy_36 : decode cX4_copy 36 = .ok (.getfield 23, 3) := by decide +kernel
theorem dX4_copy_39 : decode cX4_copy 39 = .ok (.iload_n 2, 1) := by decide +kernel
theorem dX4_copy_40 : decode cX4_copy 40 = .ok (.laload, 1) := by decide +kernel
theorem dX4_copy_41 : decode cX4_copy 41 = .ok (.invokevirtual 114, 3) := by decide +kernel
theorem dX4_copy_44 : decode cX4_copy 44 = .ok (.return_, 1) := by decide +kernel
theorem dX4_cons_0 : decode cX4_cons 0 = .ok (.iload_n 1, 1) := by decide +kernel
theorem dX4_cons_1 : decode cX4_cons 1 = .ok (.invokestatic 102, 3) := by decide +kernel
theorem dX4_cons_4 : decode cX4_cons 4 = .ok (.ifCond .ne 17, 3) := by decide +kernel
theorem dX4_cons_7 : decode cX4_cons 7 = .ok (.iload_n 2, 1) := by decide +kernel
theorem dX4_cons_8 : decode cX4_cons 8 = .ok (.invokestatic 102, 3) := by decide +kernel
theorem dX4_cons_11 : decode cX4_cons 11 = .ok (.ifCond .ne 10, 3) := by decide +kernel
theorem dX4_cons_14 : decode cX4_cons 14 = .ok (.iload_n 3, 1) := by decide +kernel
theorem dX4_cons_15 : decode cX4_cons 15 = .ok (.invokestatic 102, 3) := by decide +kernel
theorem dX4_cons_18 : decode cX4_cons 18 = .ok (.ifCond .eq 7, 3) := by decide +kernel
theorem dX4_cons_21 : decode cX4_cons 21 = .ok (.iconst 1, 1) := by decide +kernel
theorem dX4_cons_22 : decode cX4_cons 22 = .ok (.goto 4, 3) := by decide +kernel
theorem dX4_cons_25 : decode cX4_cons 25 = .ok (.iconst 0, 1) := by decide +kernel
theorem dX4_cons_26 : decode cX4_cons 26 = .ok (.istore 4, 2) := by decide +kernel
theorem dX4_cons_28 : decode cX4_cons 28 = .ok (.aload_n 0, 1) := by decide +kernel
theorem dX4_cons_29 : decode cX4_cons 29 = .ok (.iload 4, 2) := by decide +kernel
theorem dX4_cons_31 : decode cX4_cons 31 = .ok (.iload 4, 2) := by decide +kernel
theorem dX4_cons_33 : decode cX4_cons 33 = .ok (.ifCond .ne 15, 3) := by decide +kernel
theorem dX4_cons_36 : decode cX4_cons 36 = .ok (.aload_n 0, 1) := by decide +kernel
theorem dX4_cons_37 : decode cX4_cons 37 = .ok (.iconst 2, 1) := by decide +kernel
theorem dX4_cons_38 : decode cX4_cons 38 = .ok (.invokevirtual 117, 3) := by decide +kernel
theorem dX4_cons_41 : decode cX4_cons 41 = .ok (.ifCond .ne 7, 3) := by decide +kernel
theorem dX4_cons_44 : decode cX4_cons 44 = .ok (.iconst 1, 1) := by decide +kernel
theorem dX4_cons_45 : decode cX4_cons 45 = .ok (.goto 4, 3) := by decide +kernel
theorem dX4_cons_48 : decode cX4_cons 48 = .ok (.iconst 0, 1) := by decide +kernel
theorem dX4_cons_49 : decode cX4_cons 49 = .ok (.invokevirtual 110, 3) := by decide +kernel
theorem dX4_cons_52 : decode cX4_cons 52 = .ok (.ifCond .eq 4, 3) := by decide +kernel
theorem dX4_cons_55 : decode cX4_cons 55 = .ok (.return_, 1) := by decide +kernel
theorem dX4_cons_56 : decode cX4_cons 56 = .ok (.aload_n 0, 1) := by decide +kernel
theorem dX4_cons_57 : decode cX4_cons 57 = .ok (.iconst 2, 1) := by decide +kernel
theorem dX4_cons_58 : decode cX4_cons 58 = .ok (.aload_n 0, 1) := by decide +kernel
theorem dX4_cons_59 : decode cX4_cons 59 = .ok (.getfield 20, 3) := by decide +kernel
theorem dX4_cons_62 : decode cX4_cons 62 = .ok (.iload_n 2, 1) := by decide +kernel
theorem dX4_cons_63 : decode cX4_cons 63 = .ok (.iaload, 1) := by decide +kernel
theorem dX4_cons_64 : decode cX4_cons 64 = .ok (.aload_n 0, 1) := by decide +kernel
theorem dX4_cons_65 : decode cX4_cons 65 = .ok (.getfield 23, 3) := by decide +kernel
theorem dX4_cons_68 : decode cX4_cons 68 = .ok (.iload_n 2, 1) := by decide +kernel
theorem dX4_cons_69 : decode cX4_cons 69 = .ok (.laload, 1) := by decide +kernel
theorem dX4_cons_70 : decode cX4_cons 70 = .ok (.invokevirtual 120, 3) := by decide +kernel
theorem dX4_cons_73 : decode cX4_cons 73 = .ok (.istore 5, 2) := by decide +kernel
theorem dX4_cons_75 : decode cX4_cons 75 = .ok (.aload_n 0, 1) := by decide +kernel
theorem dX4_cons_76 : decode cX4_cons 76 = .ok (.iconst 3, 1) := by decide +kernel
theorem dX4_cons_77 : decode cX4_cons 77 = .ok (.aload_n 0, 1) := by decide +kernel
theorem dX4_cons_78 : decode cX4_cons 78 = .ok (.getfield 20, 3) := by decide +kernel
theorem dX4_cons_81 : decode cX4_cons 81 = .ok (.iload_n 3, 1) := by decide +kernel
theorem dX4_cons_82 : decode cX4_cons 82 = .ok (.iaload, 1) := by decide +kernel
theorem dX4_cons_83 : decode cX4_cons 83 = .ok (.aload_n 0, 1) := by decide +kernel
theorem dX4_cons_84 : decode cX4_cons 84 = .ok (.getfield 23, 3) := by decide +kernel
theorem dX4_cons_87 : decode cX4_cons 87 = .ok (.iload_n 3, 1) := by decide +kernel
theorem dX4_cons_88 : decode cX4_cons 88 = .ok (.laload, 1) := by decide +kernel
theorem dX4_cons_89 : decode cX4_cons 89 = .ok (.invokevirtual 120, 3) := by decide +kernel
theorem dX4_cons_92 : decode cX4_cons 92 = .ok (.istore 6, 2) := by decide +kernel
theorem dX4_cons_94 : decode cX4_cons 94 = .ok (.aload_n 0, 1) := by decide +kernel
theorem dX4_cons_95 : decode cX4_cons 95 = .ok (.iload_n 1, 1) := by decide +kernel
theorem dX4_cons_96 : decode cX4_cons 96 = .ok (.iconst 2, 1) := by decide +kernel
theorem dX4_cons_97 : decode cX4_cons 97 = .ok (.iload 5, 2) := by decide +kernel
theorem dX4_cons_99 : decode cX4_cons 99 = .ok (.i2l, 1) := by decide +kernel
theorem dX4_cons_100 : decode cX4_cons 100 = .ok (.invokevirtual 114, 3) := by decide +kernel
theorem dX4_cons_103 : decode cX4_cons 103 = .ok (.return_, 1) := by decide +kernel
theorem dX4_list_0 : decode cX4_list 0 = .ok (.aload_n 0, 1) := by decide +kernel
theorem dX4_list_1 : decode cX4_list 1 = .ok (.iload_n 1, 1) := by decide +kernel
theorem dX4_list_2 : decode cX4_list 2 = .ok (.invokestatic 102, 3) := by decide +kernel
theorem dX4_list_5 : decode cX4_list 5 = .ok (.ifCond .ne 10, 3) := by decide +kernel
theorem dX4_list_8 : decode cX4_list 8 = .ok (.iload_n 2, 1) := by decide +kernel
theorem dX4_list_9 : decode cX4_list 9 = .ok (.invokestatic 102, 3) := by decide +kernel
theorem dX4_list_12 : decode cX4_list 12 = .ok (.ifCond .eq 7, 3) := by decide +kernel
theorem dX4_list_15 : decode cX4_list 15 = .ok (.iconst 1, 1) := by decide +kernel
theorem dX4_list_16 : decode cX4_list 16 = .ok (.goto 4, 3) := by decide +kernel
theorem dX4_list_19 : decode cX4_list 19 = .ok (.iconst 0, 1) := by decide +kernel
theorem dX4_list_20 : decode cX4_list 20 = .ok (.iload_n 3, 1) := by decide +kernel
theorem dX4_list_21 : decode cX4_list 21 = .ok (.iconst 1, 1) := by decide +kernel
theorem dX4_list_22 : decode cX4_list 22 = .ok (.if_icmp .lt 17, 3) := by decide +kernel
theorem dX4_list_25 : decode cX4_list 25 = .ok (.iload_n 3, 1) := by decide +kernel
theorem dX4_list_26 : decode cX4_list 26 = .ok (.bipush 10, 2) := by decide +kernel
theorem dX4_list_28 : decode cX4_list 28 = .ok (.if_icmp .gt 11, 3) := by decide +kernel
theorem dX4_list_31 : decode cX4_list 31 = .ok (.iload_n 2, 1) := by decide +kernel
theorem dX4_list_32 : decode cX4_list 32 = .ok (.bipush 10, 2) := by decide +kernel
theorem dX4_list_34 : decode cX4_list 34 = .ok (.iload_n 3, 1) := by decide +kernel
theorem dX4_list_35 : decode cX4_list 35 = .ok (.isub, 1) := by decide +kernel
theorem dX4_list_36 : decode cX4_list 36 = .ok (.if_icmp .le 7, 3) := by decide +kernel
theorem dX4_list_39 : decode cX4_list 39 = .ok (.iconst 1, 1) := by decide +kernel
theorem dX4_list_40 : decode cX4_list 40 = .ok (.goto 4, 3) := by decide +kernel
theorem dX4_list_43 : decode cX4_list 43 = .ok (.iconst 0, 1) := by decide +kernel
theorem dX4_list_44 : decode cX4_list 44 = .ok (.invokevirtual 110, 3) := by decide +kernel
theorem dX4_list_47 : decode cX4_list 47 = .ok (.ifCond .eq 4, 3) := by decide +kernel
theorem dX4_list_50 : decode cX4_list 50 = .ok (.return_, 1) := by decide +kernel
theorem dX4_list_51 : decode cX4_list 51 = .ok (.aload_n 0, 1) := by decide +kernel
theorem dX4_list_52 : decode cX4_list 52 = .ok (.iload_n 3, 1) := by decide +kernel
theorem dX4_list_53 : decode cX4_list 53 = .ok (.invokevirtual 117, 3) := by decide +kernel
theorem dX4_list_56 : decode cX4_list 56 = .ok (.ifCond .ne 9, 3) := by decide +kernel
theorem dX4_list_59 : decode cX4_list 59 = .ok (.aload_n 0, 1) := by decide +kernel
theorem dX4_list_60 : decode cX4_list 60 = .ok (.iconst 3, 1) := by decide +kernel
theorem dX4_list_61 : decode cX4_list 61 = .ok (.putfield 54, 3) := by decide +kernel
theorem dX4_list_64 : decode cX4_list 64 = .ok (.return_, 1) := by decide +kernel
theorem dX4_list_65 : decode cX4_list 65 = .ok (.aload_n 0, 1) := by decide +kernel
theorem dX4_list_66 : decode cX4_list 66 = .ok (.getfield 73, 3) := by decide +kernel
theorem dX4_list_69 : decode cX4_list 69 = .ok (.istore 4, 2) := by decide +kernel
theorem dX4_list_71 : decode cX4_list 71 = .ok (.iconst 0, 1) := by decide +kernel
theorem dX4_list_72 : decode cX4_list 72 = .ok (.istore 5, 2) := by decide +kernel
theorem dX4_list_74 : decode cX4_list 74 = .ok (.iload 5, 2) := by decide +kernel
theorem dX4_list_76 : decode cX4_list 76 = .ok (.iload_n 3, 1) := by decide +kernel
theorem dX4_list_77 : decode cX4_list 77 = .ok (.if_icmp .ge 46, 3) := by decide +kernel
theorem dX4_list_80 : decode cX4_list 80 = .ok (.aload_n 0, 1) := by decide +kernel
theorem dX4_list_81 : decode cX4_list 81 = .ok (.iload 5, 2) := by decide +kernel
theorem dX4_list_83 : decode cX4_list 83 = .ok (.iload_n 3, 1) := by decide +kernel
theorem dX4_list_84 : decode cX4_list 84 = .ok (.iconst 1, 1) := by decide +kernel
theorem dX4_list_85 : decode cX4_list 85 = .ok (.isub, 1) := by decide +kernel
theorem dX4_list_86 : decode cX4_list 86 = .ok (.if_icmp .ge 7, 3) := by decide +kernel
theorem dX4_list_89 : decode cX4_list 89 = .ok (.iconst 0, 1) := by decide +kernel
theorem dX4_list_90 : decode cX4_list 90 = .ok (.goto 4, 3) := by decide +kernel
theorem dX4_list_93 : decode cX4_list 93 = .ok (.iconst 1, 1) := by decide +kernel
theorem dX4_list_94 : decode cX4_list 94 = .ok (.aload_n 0, 1) := by decide +kernel
theorem dX4_list_95 : decode cX4_list 95 = .ok (.getfield 20, 3) := by decide +kernel
theorem dX4_list_98 : decode cX4_list 98 = .ok (.iload_n 2, 1) := by decide +kernel
theorem dX4_list_99 : decode cX4_list 99 = .ok (.iload 5, 2) := by decide +kernel
theorem dX4_list_101 : decode cX4_list 101 = .ok (.iadd, 1) := by decide +kernel
theorem dX4_list_102 : decode cX4_list 102 = .ok (.iaload, 1) := by decide +kernel
theorem dX4_list_103 : decode cX4_list 103 = .ok (.aload_n 0, 1) := by decide +kernel
theorem dX4_list_104 : decode cX4_list 104 = .ok (.getfield 23, 3) := by decide +kernel
theorem dX4_list_107 : decode cX4_list 107 = .ok (.iload_n 2, 1) := by decide +kernel
theorem dX4_list_108 : decode cX4_list 108 = .ok (.iload 5, 2) := by decide +kernel
theorem dX4_list_110 : decode cX4_list 110 = .ok (.iadd, 1) := by decide +kernel
theorem dX4_list_111 : decode cX4_list 111 = .ok (.laload, 1) := by decide +kernel
theorem dX4_list_112 : decode cX4_list 112 = .ok (.invokevirtual 120, 3) := by decide +kernel
theorem dX4_list_115 : decode cX4_list 115 = .ok (.istore 6, 2) := by decide +kernel
theorem dX4_list_117 : decode cX4_list 117 = .ok (.iinc 5 1, 3) := by decide +kernel
theorem dX4_list_120 : decode cX4_list 120 = .ok (.goto (-46), 3) := by decide +kernel
theorem dX4_list_123 : decode cX4_list 123 = .ok (.aload_n 0, 1) := by decide +kernel
theorem dX4_list_124 : decode cX4_list 124 = .ok (.iload_n 1, 1) := by decide +kernel
theorem dX4_list_125 : decode cX4_list 125 = .ok (.iconst 2, 1) := by decide +kernel
theorem dX4_list_126 : decode cX4_list 126 = .ok (.iload 4, 2) := by decide +kernel
theorem dX4_list_128 : decode cX4_list 128 = .ok (.i2l, 1) := by decide +kernel
theorem dX4_list_129 : decode cX4_list 129 = .ok (.invokevirtual 114, 3) := by decide +kernel
theorem dX4_list_132 : decode cX4_list 132 = .ok (.return_, 1) := by decide +kernel
theorem dX4_first_0 : decode cX4_first 0 = .ok (.iload_n 1, 1) := by decide +kernel
theorem dX4_first_1 : decode cX4_first 1 = .ok (.invokestatic 102, 3) := by decide +kernel
theorem dX4_first_4 : decode cX4_first 4 = .ok (.ifCond .ne 10, 3) := by decide +kernel
theorem dX4_first_7 : decode cX4_first 7 = .ok (.iload_n 2, 1) := by decide +kernel
theorem dX4_first_8 : decode cX4_first 8 = .ok (.invokestatic 102, 3) := by decide +kernel
theorem dX4_first_11 : decode cX4_first 11 = .ok (.ifCond .eq 7, 3) := by decide +kernel
theorem dX4_first_14 : decode cX4_first 14 = .ok (.iconst 1, 1) := by decide +kernel
theorem dX4_first_15 : decode cX4_first 15 = .ok (.goto 4, 3) := by decide +kernel
theorem dX4_first_18 : decode cX4_first 18 = .ok (.iconst 0, 1) := by decide +kernel
theorem dX4_first_19 : decode cX4_first 19 = .ok (.istore_n 3, 1) := by decide +kernel
theorem dX4_first_20 : decode cX4_first 20 = .ok (.aload_n 0, 1) := by decide +kernel
theorem dX4_first_21 : decode cX4_first 21 = .ok (.iload_n 3, 1) := by decide +kernel
theorem dX4_first_22 : decode cX4_first 22 = .ok (.iload_n 3, 1) := by decide +kernel
theorem dX4_first_23 : decode cX4_first 23 = .ok (.ifCond .ne 17, 3) := by decide +kernel
theorem dX4_first_26 : decode cX4_first 26 = .ok (.aload_n 0, 1) := by decide +kernel
theorem dX4_first_27 : decode cX4_first 27 = .ok (.getfield 20, 3) := by decide +kernel
theorem dX4_first_30 : decode cX4_first 30 = .ok (.iload_n 2, 1) := by decide +kernel
theorem dX4_first_31 : decode cX4_first 31 = .ok (.iaload, 1) := by decide +kernel
theorem dX4_first_32 : decode cX4_first 32 = .ok (.iconst 2, 1) := by decide +kernel
theorem dX4_first_33 : decode cX4_first 33 = .ok (.if_icmp .eq 7, 3) := by decide +kernel
theorem dX4_first_36 : decode cX4_first 36 = .ok (.iconst 1, 1) := by decide +kernel
theorem dX4_first_37 : decode cX4_first 37 = .ok (.goto 4, 3) := by decide +kernel
theorem dX4_first_40 : decode cX4_first 40 = .ok (.iconst 0, 1) := by decide +kernel
theorem dX4_first_41 : decode cX4_first 41 = .ok (.invokevirtual 110, 3) := by decide +kernel
theorem dX4_first_44 : decode cX4_first 44 = .ok (.ifCond .eq 4, 3) := by decide +kernel
theorem dX4_first_47 : decode cX4_first 47 = .ok (.return_, 1) := by decide +kernel
theorem dX4_first_48 : decode cX4_first 48 = .ok (.aload_n 0, 1) := by decide +kernel
theorem dX4_first_49 : decode cX4_first 49 = .ok (.iload_n 2, 1) := by decide +kernel
theorem dX4_first_50 : decode cX4_first 50 = .ok (.invokevirtual 124, 3) := by decide +kernel
theorem dX4_first_53 : decode cX4_first 53 = .ok (.istore 4, 2) := by decide +kernel
theorem dX4_first_55 : decode cX4_first 55 = .ok (.aload_n 0, 1) := by decide +kernel
theorem dX4_first_56 : decode cX4_first 56 = .ok (.iload_n 1, 1) := by decide +kernel
theorem dX4_first_57 : decode cX4_first 57 = .ok (.aload_n 0, 1) := by decide +kernel
theorem dX4_first_58 : decode cX4_first 58 = .ok (.getfield 13, 3) := by decide +kernel
theorem dX4_first_61 : decode cX4_first 61 = .ok (.iload 4, 2) := by decide +kernel
theorem dX4_first_63 : decode cX4_first 63 = .ok (.iaload, 1) := by decide +kernel
theorem dX4_first_64 : decode cX4_first 64 = .ok (.aload_n 0, 1) := by decide +kernel
theorem dX4_first_65 : decode cX4_first 65 = .ok (.getfield 16, 3) := by decide +kernel
theorem dX4_first_68 : decode cX4_first 68 = .ok (.iload 4, 2) := by decide +kernel
theorem dX4_first_70 : decode cX4_first 70 = .ok (.laload, 1) := by decide +kernel
theorem dX4_first_71 : decode cX4_first 71 = .ok (.invokevirtual 114, 3) := by decide +kernel
theorem dX4_first_74 : decode cX4_first 74 = .ok (.return_, 1) := by decide +kernel
theorem dX4_rest_0 : decode cX4_rest 0 = .ok (.iload_n 1, 1) := by decide +kernel
theorem dX4_rest_1 : decode cX4_rest 1 = .ok (.invokestatic 102, 3) := by decide +kernel
theorem dX4_rest_4 : decode cX4_rest 4 = .ok (.ifCond .ne 10, 3) := by decide +kernel
theorem dX4_rest_7 : decode cX4_rest 7 = .ok (.iload_n 2, 1) := by decide +kernel
theorem dX4_rest_8 : decode cX4_rest 8 = .ok (.invokestatic 102, 3) := by decide +kernel
theorem dX4_rest_11 : decode cX4_rest 11 = .ok (.ifCond .eq 7, 3) := by decide +kernel
theorem dX4_rest_14 : decode cX4_rest 14 = .ok (.iconst 1, 1) := by decide +kernel
theorem dX4_rest_15 : decode cX4_rest 15 = .ok (.goto 4, 3) := by decide +kernel
theorem dX4_rest_18 : decode cX4_rest 18 = .ok (.iconst 0, 1) := by decide +kernel
theorem dX4_rest_19 : decode cX4_rest 19 = .ok (.istore_n 3, 1) := by decide +kernel
theorem dX4_rest_20 : decode cX4_rest 20 = .ok (.aload_n 0, 1) := by decide +kernel
theorem dX4_rest_21 : decode cX4_rest 21 = .ok (.iload_n 3, 1) := by decide +kernel
theorem dX4_rest_22 : decode cX4_rest 22 = .ok (.iload_n 3, 1) := by decide +kernel
theorem dX4_rest_23 : decode cX4_rest 23 = .ok (.ifCond .ne 17, 3) := by decide +kernel
theorem dX4_rest_26 : decode cX4_rest 26 = .ok (.aload_n 0, 1) := by decide +kernel
theorem dX4_rest_27 : decode cX4_rest 27 = .ok (.getfield 20, 3) := by decide +kernel
theorem dX4_rest_30 : decode cX4_rest 30 = .ok (.iload_n 2, 1) := by decide +kernel
theorem dX4_rest_31 : decode cX4_rest 31 = .ok (.iaload, 1) := by decide +kernel
theorem dX4_rest_32 : decode cX4_rest 32 = .ok (.iconst 2, 1) := by decide +kernel
theorem dX4_rest_33 : decode cX4_rest 33 = .ok (.if_icmp .eq 7, 3) := by decide +kernel
theorem dX4_rest_36 : decode cX4_rest 36 = .ok (.iconst 1, 1) := by decide +kernel
theorem dX4_rest_37 : decode cX4_rest 37 = .ok (.goto 4, 3) := by decide +kernel
theorem dX4_rest_40 : decode cX4_rest 40 = .ok (.iconst 0, 1) := by decide +kernel
theorem dX4_rest_41 : decode cX4_rest 41 = .ok (.invokevirtual 110, 3) := by decide +kernel
theorem dX4_rest_44 : decode cX4_rest 44 = .ok (.ifCond .eq 4, 3) := by decide +kernel
theorem dX4_rest_47 : decode cX4_rest 47 = .ok (.return_, 1) := by decide +kernel
theorem dX4_rest_48 : decode cX4_rest 48 = .ok (.aload_n 0, 1) := by decide +kernel
theorem dX4_rest_49 : decode cX4_rest 49 = .ok (.aload_n 0, 1) := by decide +kernel
theorem dX4_rest_50 : decode cX4_rest 50 = .ok (.iload_n 2, 1) := by decide +kernel
theorem dX4_rest_51 : decode cX4_rest 51 = .ok (.invokevirtual 124, 3) := by decide +kernel
theorem dX4_rest_54 : decode cX4_rest 54 = .ok (.invokevirtual 85, 3) := by decide +kernel
theorem dX4_rest_57 : decode cX4_rest 57 = .ok (.aload_n 0, 1) := by decide +kernel
theorem dX4_rest_58 : decode cX4_rest 58 = .ok (.iload_n 1, 1) := by decide +kernel
theorem dX4_rest_59 : decode cX4_rest 59 = .ok (.aload_n 0, 1) := by decide +kernel
theorem dX4_rest_60 : decode cX4_rest 60 = .ok (.getfield 58, 3) := by decide +kernel
theorem dX4_rest_63 : decode cX4_rest 63 = .ok (.aload_n 0, 1) := by decide +kernel
theorem dX4_rest_64 : decode cX4_rest 64 = .ok (.getfield 61, 3) := by decide +kernel
theorem dX4_rest_67 : decode cX4_rest 67 = .ok (.invokevirtual 114, 3) := by decide +kernel
theorem dX4_rest_70 : decode cX4_rest 70 = .ok (.return_, 1) := by decide +kernel
theorem dX4_setFirst_0 : decode cX4_setFirst 0 = .ok (.iload_n 1, 1) := by decide +kernel
theorem dX4_setFirst_1 : decode cX4_setFirst 1 = .ok (.invokestatic 102, 3) := by decide +kernel
theorem dX4_setFirst_4 : decode cX4_setFirst 4 = .ok (.ifCond .ne 10, 3) := by decide +kernel
theorem dX4_setFirst_7 : decode cX4_setFirst 7 = .ok (.iload_n 2, 1) := by decide +kernel
theorem dX4_setFirst_8 : decode cX4_setFirst 8 = .ok (.invokestatic 102, 3) := by decide +kernel
theorem dX4_setFirst_11 : decode cX4_setFirst 11 = .ok (.ifCond .eq 7, 3) := by decide +kernel
theorem dX4_setFirst_14 : decode cX4_setFirst 14 = .ok (.iconst 1, 1) := by decide +kernel
theorem dX4_setFirst_15 : decode cX4_setFirst 15 = .ok (.goto 4, 3) := by decide +kernel
theorem dX4_setFirst_18 : decode cX4_setFirst 18 = .ok (.iconst 0, 1) := by decide +kernel
theorem dX4_setFirst_19 : decode cX4_setFirst 19 = .ok (.istore_n 3, 1) := by decide +kernel
theorem dX4_setFirst_20 : decode cX4_setFirst 20 = .ok (.aload_n 0, 1) := by decide +kernel
theorem dX4_setFirst_21 : decode cX4_setFirst 21 = .ok (.iload_n 3, 1) := by decide +kernel
theorem dX4_setFirst_22 : decode cX4_setFirst 22 = .ok (.iload_n 3, 1) := by decide +kernel
theorem dX4_setFirst_23 : decode cX4_setFirst 23 = .ok (.ifCond .ne 17, 3) := by decide +kernel
theorem dX4_setFirst_26 : decode cX4_setFirst 26 = .ok (.aload_n 0, 1) := by decide +kernel
theorem dX4_setFirst_27 : decode cX4_setFirst 27 = .ok (.getfield 20, 3) := by decide +kernel
theorem dX4_setFirst_30 : decode cX4_setFirst 30 = .ok (.iload_n 1, 1) := by decide +kernel
theorem dX4_setFirst_31 : decode cX4_setFirst 31 = .ok (.iaload, 1) := by decide +kernel
theorem dX4_setFirst_32 : decode cX4_setFirst 32 = .ok (.iconst 2, 1) := by decide +kernel
theorem dX4_setFirst_33 : decode cX4_setFirst 33 = .ok (.if_icmp .eq 7, 3) := by decide +kernel
theorem dX4_setFirst_36 : decode cX4_setFirst 36 = .ok (.iconst 1, 1) := by decide +kernel
theorem dX4_setFirst_37 : decode cX4_setFirst 37 = .ok (.goto 4, 3) := by decide +kernel
theorem dX4_setFirst_40 : decode cX4_setFirst 40 = .ok (.iconst 0, 1) := by decide +kernel
theorem dX4_setFirst_41 : decode cX4_setFirst 41 = .ok (.invokevirtual 110, 3) := by decide +kernel
theorem dX4_setFirst_44 : decode cX4_setFirst 44 = .ok (.ifCond .eq 4, 3) := by decide +kernel
theorem dX4_setFirst_47 : decode cX4_setFirst 47 = .ok (.return_, 1) := by decide +kernel
theorem dX4_setFirst_48 : decode cX4_setFirst 48 = .ok (.aload_n 0, 1) := by decide +kernel
theorem dX4_setFirst_49 : decode cX4_setFirst 49 = .ok (.iload_n 1, 1) := by decide +kernel
theorem dX4_setFirst_50 : decode cX4_setFirst 50 = .ok (.invokevirtual 124, 3) := by decide +kernel
theorem dX4_setFirst_53 : decode cX4_setFirst 53 = .ok (.istore 4, 2) := by decide +kernel
theorem dX4_setFirst_55 : decode cX4_setFirst 55 = .ok (.aload_n 0, 1) := by decide +kernel
theorem dX4_setFirst_56 : decode cX4_setFirst 56 = .ok (.getfield 13, 3) := by decide +kernel
theorem dX4_setFirst_59 : decode cX4_setFirst 59 = .ok (.iload 4, 2) := by decide +kernel
theorem dX4_setFirst_61 : decode cX4_setFirst 61 = .ok (.aload_n 0, 1) := by decide +kernel
theorem dX4_setFirst_62 : decode cX4_setFirst 62 = .ok (.getfield 20, 3) := by decide +kernel
theorem dX4_setFirst_65 : decode cX4_setFirst 65 = .ok (.iload_n 2, 1) := by decide +kernel
theorem dX4_setFirst_66 : decode cX4_setFirst 66 = .ok (.iaload, 1) := by decide +kernel
theorem dX4_setFirst_67 : decode cX4_setFirst 67 = .ok (.iastore, 1) := by decide +kernel
theorem dX4_setFirst_68 : decode cX4_setFirst 68 = .ok (.aload_n 0, 1) := by decide +kernel
theorem dX4_setFirst_69 : decode cX4_setFirst 69 = .ok (.getfield 16, 3) := by decide +kernel
theorem dX4_setFirst_72 : decode cX4_setFirst 72 = .ok (.iload 4, 2) := by decide +kernel
theorem dX4_setFirst_74 : decode cX4_setFirst 74 = .ok (.aload_n 0, 1) := by decide +kernel
theorem dX4_setFirst_75 : decode cX4_setFirst 75 = .ok (.getfield 23, 3) := by decide +kernel
theorem dX4_setFirst_78 : decode cX4_setFirst 78 = .ok (.iload_n 2, 1) := by decide +kernel
theorem dX4_setFirst_79 : decode cX4_setFirst 79 = .ok (.laload, 1) := by decide +kernel
theorem dX4_setFirst_80 : decode cX4_setFirst 80 = .ok (.lastore, 1) := by decide +kernel
theorem dX4_setFirst_81 : decode cX4_setFirst 81 = .ok (.return_, 1) := by decide +kernel
theorem dX4_setRest_0 : decode cX4_setRest 0 = .ok (.iload_n 1, 1) := by decide +kernel
theorem dX4_setRest_1 : decode cX4_setRest 1 = .ok (.invokestatic 102, 3) := by decide +kernel
theorem dX4_setRest_4 : decode cX4_setRest 4 = .ok (.ifCond .ne 10, 3) := by decide +kernel
theorem dX4_setRest_7 : decode cX4_setRest 7 = .ok (.iload_n 2, 1) := by decide +kernel
theorem dX4_setRest_8 : decode cX4_setRest 8 = .ok (.invokestatic 102, 3) := by decide +kernel
theorem dX4_setRest_11 : decode cX4_setRest 11 = .ok (.ifCond .eq 7, 3) := by decide +kernel
theorem dX4_setRest_14 : decode cX4_setRest 14 = .ok (.iconst 1, 1) := by decide +kernel
theorem dX4_setRest_15 : decode cX4_setRest 15 = .ok (.goto 4, 3) := by decide +kernel
theorem dX4_setRest_18 : decode cX4_setRest 18 = .ok (.iconst 0, 1) := by decide +kernel
theorem dX4_setRest_19 : decode cX4_setRest 19 = .ok (.istore_n 3, 1) := by decide +kernel
theorem dX4_setRest_20 : decode cX4_setRest 20 = .ok (.aload_n 0, 1) := by decide +kernel
theorem dX4_setRest_21 : decode cX4_setRest 21 = .ok (.iload_n 3, 1) := by decide +kernel
theorem dX4_setRest_22 : decode cX4_setRest 22 = .ok (.iload_n 3, 1) := by decide +kernel
theorem dX4_setRest_23 : decode cX4_setRest 23 = .ok (.ifCond .ne 17, 3) := by decide +kernel
theorem dX4_setRest_26 : decode cX4_setRest 26 = .ok (.aload_n 0, 1) := by decide +kernel
theorem dX4_setRest_27 : decode cX4_setRest 27 = .ok (.getfield 20, 3) := by decide +kernel
theorem dX4_setRest_30 : decode cX4_setRest 30 = .ok (.iload_n 1, 1) := by decide +kernel
theorem dX4_setRest_31 : decode cX4_setRest 31 = .ok (.iaload, 1) := by decide +kernel
theorem dX4_setRest_32 : decode cX4_setRest 32 = .ok (.iconst 2, 1) := by decide +kernel
theorem dX4_setRest_33 : decode cX4_setRest 33 = .ok (.if_icmp .eq 7, 3) := by decide +kernel
theorem dX4_setRest_36 : decode cX4_setRest 36 = .ok (.iconst 1, 1) := by decide +kernel
theorem dX4_setRest_37 : decode cX4_setRest 37 = .ok (.goto 4, 3) := by decide +kernel
theorem dX4_setRest_40 : decode cX4_setRest 40 = .ok (.iconst 0, 1) := by decide +kernel
theorem dX4_setRest_41 : decode cX4_setRest 41 = .ok (.invokevirtual 110, 3) := by decide +kernel
theorem dX4_setRest_44 : decode cX4_setRest 44 = .ok (.ifCond .eq 4, 3) := by decide +kernel
theorem dX4_setRest_47 : decode cX4_setRest 47 = .ok (.return_, 1) := by decide +kernel
theorem dX4_setRest_48 : decode cX4_setRest 48 = .ok (.aload_n 0, 1) := by decide +kernel
theorem dX4_setRest_49 : decode cX4_setRest 49 = .ok (.aload_n 0, 1) := by decide +kernel
theorem dX4_setRest_50 : decode cX4_setRest 50 = .ok (.iload_n 1, 1) := by decide +kernel
theorem dX4_setRest_51 : decode cX4_setRest 51 = .ok (.invokevirtual 124, 3) := by decide +kernel
theorem dX4_setRest_54 : decode cX4_setRest 54 = .ok (.invokevirtual 85, 3) := by decide +kernel
theorem dX4_setRest_57 : decode cX4_setRest 57 = .ok (.aload_n 0, 1) := by decide +kernel
theorem dX4_setRest_58 : decode cX4_setRest 58 = .ok (.aload_n 0, 1) := by decide +kernel
theorem dX4_setRest_59 : decode cX4_setRest 59 = .ok (.getfield 58, 3) := by decide +kernel
theorem dX4_setRest_62 : decode cX4_setRest 62 = .ok (.aload_n 0, 1) := by decide +kernel
theorem dX4_setRest_63 : decode cX4_setRest 63 = .ok (.getfield 61, 3) := by decide +kernel
theorem dX4_setRest_66 : decode cX4_setRest 66 = .ok (.aload_n 0, 1) := by decide +kernel
theorem dX4_setRest_67 : decode cX4_setRest 67 = .ok (.getfield 20, 3) := by decide +kernel
theorem dX4_setRest_70 : decode cX4_setRest 70 = .ok (.iload_n 2, 1) := by decide +kernel
theorem dX4_setRest_71 : decode cX4_setRest 71 = .ok (.iaload, 1) := by decide +kernel
theorem dX4_setRest_72 : decode cX4_setRest 72 = .ok (.aload_n 0, 1) := by decide +kernel
theorem dX4_setRest_73 : decode cX4_setRest 73 = .ok (.getfield 23, 3) := by decide +kernel
theorem dX4_setRest_76 : decode cX4_setRest 76 = .ok (.iload_n 2, 1) := by decide +kernel
theorem dX4_setRest_77 : decode cX4_setRest 77 = .ok (.laload, 1) := by decide +kernel
theorem dX4_setRest_78 : decode cX4_setRest 78 = .ok (.invokevirtual 128, 3) := by decide +kernel
theorem dX4_setRest_81 : decode cX4_setRest 81 = .ok (.ifCond .eq 4, 3) := by decide +kernel
theorem dX4_setRest_84 : decode cX4_setRest 84 = .ok (.return_, 1) := by decide +kernel
theorem dX4_setRest_85 : decode cX4_setRest 85 = .ok (.aload_n 0, 1) := by decide +kernel
theorem dX4_setRest_86 : decode cX4_setRest 86 = .ok (.getfield 7, 3) := by decide +kernel
theorem dX4_setRest_89 : decode cX4_setRest 89 = .ok (.aload_n 0, 1) := by decide +kernel
theorem dX4_setRest_90 : decode cX4_setRest 90 = .ok (.iload_n 1, 1) := by decide +kernel
theorem dX4_setRest_91 : decode cX4_setRest 91 = .ok (.invokevirtual 124, 3) := by decide +kernel
theorem dX4_setRest_94 : decode cX4_setRest 94 = .ok (.iaload, 1) := by decide +kernel
theorem dX4_setRest_95 : decode cX4_setRest 95 = .ok (.iconst 2, 1) := by decide +kernel
theorem dX4_setRest_96 : decode cX4_setRest 96 = .ok (.if_icmp .eq 17, 3) := by decide +kernel
theorem dX4_setRest_99 : decode cX4_setRest 99 = .ok (.aload_n 0, 1) := by decide +kernel
theorem dX4_setRest_100 : decode cX4_setRest 100 = .ok (.iconst 2, 1) := by decide +kernel
theorem dX4_setRest_101 : decode cX4_setRest 101 = .ok (.invokevirtual 117, 3) := by decide +kernel
theorem dX4_setRest_104 : decode cX4_setRest 104 = .ok (.ifCond .ne 9, 3) := by decide +kernel
theorem dX4_setRest_107 : decode cX4_setRest 107 = .ok (.aload_n 0, 1) := by decide +kernel
theorem dX4_setRest_108 : decode cX4_setRest 108 = .ok (.iconst 3, 1) := by decide +kernel
theorem dX4_setRest_109 : decode cX4_setRest 109 = .ok (.putfield 54, 3) := by decide +kernel
theorem dX4_setRest_112 : decode cX4_setRest 112 = .ok (.return_, 1) := by decide +kernel
theorem dX4_setRest_113 : decode cX4_setRest 113 = .ok (.aload_n 0, 1) := by decide +kernel
theorem dX4_setRest_114 : decode cX4_setRest 114 = .ok (.iload_n 1, 1) := by decide +kernel
theorem dX4_setRest_115 : decode cX4_setRest 115 = .ok (.invokevirtual 124, 3) := by decide +kernel
theorem dX4_setRest_118 : decode cX4_setRest 118 = .ok (.istore 4, 2) := by decide +kernel
theorem dX4_setRest_120 : decode cX4_setRest 120 = .ok (.aload_n 0, 1) := by decide +kernel
theorem dX4_setRest_121 : decode cX4_setRest 121 = .ok (.getfield 7, 3) := by decide +kernel
theorem dX4_setRest_124 : decode cX4_setRest 124 = .ok (.iload 4, 2) := by decide +kernel
theorem dX4_setRest_126 : decode cX4_setRest 126 = .ok (.iaload, 1) := by decide +kernel
theorem dX4_setRest_127 : decode cX4_setRest 127 = .ok (.iconst 2, 1) := by decide +kernel
theorem dX4_setRest_128 : decode cX4_setRest 128 = .ok (.if_icmp .ne 34, 3) := by decide +kernel
theorem dX4_setRest_131 : decode cX4_setRest 131 = .ok (.aload_n 0, 1) := by decide +kernel
theorem dX4_setRest_132 : decode cX4_setRest 132 = .ok (.getfield 13, 3) := by decide +kernel
theorem dX4_setRest_135 : decode cX4_setRest 135 = .ok (.iload 4, 2) := by decide +kernel
theorem dX4_setRest_137 : decode cX4_setRest 137 = .ok (.iconst 1, 1) := by decide +kernel
theorem dX4_setRest_138 : decode cX4_setRest 138 = .ok (.iadd, 1) := by decide +kernel
theorem dX4_setRest_139 : decode cX4_setRest 139 = .ok (.aload_n 0, 1) := by decide +kernel
theorem dX4_setRest_140 : decode cX4_setRest 140 = .ok (.getfield 20, 3) := by decide +kernel
theorem dX4_setRest_143 : decode cX4_setRest 143 = .ok (.iload_n 2, 1) := by decide +kernel
theorem dX4_setRest_144 : decode cX4_setRest 144 = .ok (.iaload, 1) := by decide +kernel
theorem dX4_setRest_145 : decode cX4_setRest 145 = .ok (.iastore, 1) := by decide +kernel
theorem dX4_setRest_146 : decode cX4_setRest 146 = .ok (.aload_n 0, 1) := by decide +kernel
theorem dX4_setRest_147 : decode cX4_setRest 147 = .ok (.getfield 16, 3) := by decide +kernel
theorem dX4_setRest_150 : decode cX4_setRest 150 = .ok (.iload 4, 2) := by decide +kernel
theorem dX4_setRest_152 : decode cX4_setRest 152 = .ok (.iconst 1, 1) := by decide +kernel
theorem dX4_setRest_153 : decode cX4_setRest 153 = .ok (.iadd, 1) := by decide +kernel
theorem dX4_setRest_154 : decode cX4_setRest 154 = .ok (.aload_n 0, 1) := by decide +kernel
theorem dX4_setRest_155 : decode cX4_setRest 155 = .ok (.getfield 23, 3) := by decide +kernel
theorem dX4_setRest_158 : decode cX4_setRest 158 = .ok (.iload_n 2, 1) := by decide +kernel
theorem dX4_setRest_159 : decode cX4_setRest 159 = .ok (.laload, 1) := by decide +kernel
theorem dX4_setRest_160 : decode cX4_setRest 160 = .ok (.lastore, 1) := by decide +kernel
theorem dX4_setRest_161 : decode cX4_setRest 161 = .ok (.return_, 1) := by decide +kernel
theorem dX4_setRest_162 : decode cX4_setRest 162 = .ok (.aload_n 0, 1) := by decide +kernel
theorem dX4_setRest_163 : decode cX4_setRest 163 = .ok (.iconst 2, 1) := by decide +kernel
theorem dX4_setRest_164 : decode cX4_setRest 164 = .ok (.aload_n 0, 1) := by decide +kernel
theorem dX4_setRest_165 : decode cX4_setRest 165 = .ok (.getfield 13, 3) := by decide +kernel
theorem dX4_setRest_168 : decode cX4_setRest 168 = .ok (.iload 4, 2) := by decide +kernel
theorem dX4_setRest_170 : decode cX4_setRest 170 = .ok (.iaload, 1) := by decide +kernel
theorem dX4_setRest_171 : decode cX4_setRest 171 = .ok (.aload_n 0, 1) := by decide +kernel
theorem dX4_setRest_172 : decode cX4_setRest 172 = .ok (.getfield 16, 3) := by decide +kernel
theorem dX4_setRest_175 : decode cX4_setRest 175 = .ok (.iload 4, 2) := by decide +kernel
theorem dX4_setRest_177 : decode cX4_setRest 177 = .ok (.laload, 1) := by decide +kernel
theorem dX4_setRest_178 : decode cX4_setRest 178 = .ok (.invokevirtual 120, 3) := by decide +kernel
theorem dX4_setRest_181 : decode cX4_setRest 181 = .ok (.istore 5, 2) := by decide +kernel
theorem dX4_setRest_183 : decode cX4_setRest 183 = .ok (.aload_n 0, 1) := by decide +kernel
theorem dX4_setRest_184 : decode cX4_setRest 184 = .ok (.iconst 3, 1) := by decide +kernel
theorem dX4_setRest_185 : decode cX4_setRest 185 = .ok (.aload_n 0, 1) := by decide +kernel
theorem dX4_setRest_186 : decode cX4_setRest 186 = .ok (.getfield 20, 3) := by decide +kernel
theorem dX4_setRest_189 : decode cX4_setRest 189 = .ok (.iload_n 2, 1) := by decide +kernel
theorem dX4_setRest_190 : decode cX4_setRest 190 = .ok (.iaload, 1) := by decide +kernel
theorem dX4_setRest_191 : decode cX4_setRest 191 = .ok (.aload_n 0, 1) := by decide +kernel
theorem dX4_setRest_192 : decode cX4_setRest 192 = .ok (.getfield 23, 3) := by decide +kernel
theorem dX4_setRest_195 : decode cX4_setRest 195 = .ok (.iload_n 2, 1) := by decide +kernel
theorem dX4_setRest_196 : decode cX4_setRest 196 = .ok (.laload, 1) := by decide +kernel
theorem dX4_setRest_197 : decode cX4_setRest 197 = .ok (.invokevirtual 120, 3) := by decide +kernel
theorem dX4_setRest_200 : decode cX4_setRest 200 = .ok (.istore 6, 2) := by decide +kernel
theorem dX4_setRest_202 : decode cX4_setRest 202 = .ok (.aload_n 0, 1) := by decide +kernel
theorem dX4_setRest_203 : decode cX4_setRest 203 = .ok (.getfield 13, 3) := by decide +kernel
theorem dX4_setRest_206 : decode cX4_setRest 206 = .ok (.iload 4, 2) := by decide +kernel
theorem dX4_setRest_208 : decode cX4_setRest 208 = .ok (.iconst 3, 1) := by decide +kernel
theorem dX4_setRest_209 : decode cX4_setRest 209 = .ok (.iastore, 1) := by decide +kernel
theorem dX4_setRest_210 : decode cX4_setRest 210 = .ok (.aload_n 0, 1) := by decide +kernel
theorem dX4_setRest_211 : decode cX4_setRest 211 = .ok (.getfield 16, 3) := by decide +kernel
theorem dX4_setRest_214 : decode cX4_setRest 214 = .ok (.iload 4, 2) := by decide +kernel
theorem dX4_setRest_216 : decode cX4_setRest 216 = .ok (.iload 5, 2) := by decide +kernel
theorem dX4_setRest_218 : decode cX4_setRest 218 = .ok (.i2l, 1) := by decide +kernel
theorem dX4_setRest_219 : decode cX4_setRest 219 = .ok (.lastore, 1) := by decide +kernel
theorem dX4_setRest_220 : decode cX4_setRest 220 = .ok (.return_, 1) := by decide +kernel
theorem dX4_lengthOf_0 : decode cX4_lengthOf 0 = .ok (.aload_n 0, 1) := by decide +kernel
theorem dX4_lengthOf_1 : decode cX4_lengthOf 1 = .ok (.iload_n 1, 1) := by decide +kernel
theorem dX4_lengthOf_2 : decode cX4_lengthOf 2 = .ok (.lload_n 2, 1) := by decide +kernel
theorem dX4_lengthOf_3 : decode cX4_lengthOf 3 = .ok (.invokevirtual 69, 3) := by decide +kernel
theorem dX4_lengthOf_6 : decode cX4_lengthOf 6 = .ok (.iconst 0, 1) := by decide +kernel
theorem dX4_lengthOf_7 : decode cX4_lengthOf 7 = .ok (.istore 4, 2) := by decide +kernel
theorem dX4_lengthOf_9 : decode cX4_lengthOf 9 = .ok (.aload_n 0, 1) := by decide +kernel
theorem dX4_lengthOf_10 : decode cX4_lengthOf 10 = .ok (.getfield 58, 3) := by decide +kernel
theorem dX4_lengthOf_13 : decode cX4_lengthOf 13 = .ok (.iconst 2, 1) := by decide +kernel
theorem dX4_lengthOf_14 : decode cX4_lengthOf 14 = .ok (.if_icmp .ne 28, 3) := by decide +kernel
theorem dX4_lengthOf_17 : decode cX4_lengthOf 17 = .ok (.iload 4, 2) := by decide +kernel
theorem dX4_lengthOf_19 : decode cX4_lengthOf 19 = .ok (.bipush 120, 2) := by decide +kernel
theorem dX4_lengthOf_21 : decode cX4_lengthOf 21 = .ok (.if_icmp .gt 21, 3) := by decide +kernel
theorem dX4_lengthOf_24 : decode cX4_lengthOf 24 = .ok (.iinc 4 1, 3) := by decide +kernel
theorem dX4_lengthOf_27 : decode cX4_lengthOf 27 = .ok (.aload_n 0, 1) := by decide +kernel
theorem dX4_lengthOf_28 : decode cX4_lengthOf 28 = .ok (.aload_n 0, 1) := by decide +kernel
theorem dX4_lengthOf_29 : decode cX4_lengthOf 29 = .ok (.aload_n 0, 1) := by decide +kernel
theorem dX4_lengthOf_30 : decode cX4_lengthOf 30 = .ok (.getfield 61, 3) := by decide +kernel
theorem dX4_lengthOf_33 : decode cX4_lengthOf 33 = .ok (.invokevirtual 65, 3) := by decide +kernel
theorem dX4_lengthOf_36 : decode cX4_lengthOf 36 = .ok (.invokevirtual 85, 3) := by decide +kernel
theorem dX4_lengthOf_39 : decode cX4_lengthOf 39 = .ok (.goto (-30), 3) := by decide +kernel
theorem dX4_lengthOf_42 : decode cX4_lengthOf 42 = .ok (.iload 4, 2) := by decide +kernel
theorem dX4_lengthOf_44 : decode cX4_lengthOf 44 = .ok (.bipush 120, 2) := by decide +kernel
theorem dX4_lengthOf_46 : decode cX4_lengthOf 46 = .ok (.if_icmp .le 8, 3) := by decide +kernel
theorem dX4_lengthOf_49 : decode cX4_lengthOf 49 = .ok (.bipush (-2), 2) := by decide +kernel
theorem dX4_lengthOf_51 : decode cX4_lengthOf 51 = .ok (.goto 17, 3) := by decide +kernel
theorem dX4_lengthOf_54 : decode cX4_lengthOf 54 = .ok (.aload_n 0, 1) := by decide +kernel
theorem dX4_lengthOf_55 : decode cX4_lengthOf 55 = .ok (.getfield 58, 3) := by decide +kernel
theorem dX4_lengthOf_58 : decode cX4_lengthOf 58 = .ok (.iconst 1, 1) := by decide +kernel
theorem dX4_lengthOf_59 : decode cX4_lengthOf 59 = .ok (.if_icmp .ne 7, 3) := by decide +kernel
theorem dX4_lengthOf_62 : decode cX4_lengthOf 62 = .ok (.iconst (-1), 1) := by decide +kernel
theorem dX4_lengthOf_63 : decode cX4_lengthOf 63 = .ok (.goto 5, 3) := by decide +kernel
theorem dX4_lengthOf_66 : decode cX4_lengthOf 66 = .ok (.iload 4, 2) := by decide +kernel
theorem dX4_lengthOf_68 : decode cX4_lengthOf 68 = .ok (.ireturn, 1) := by decide +kernel
theorem dX4_append_0 : decode cX4_append 0 = .ok (.iload_n 1, 1) := by decide +kernel
theorem dX4_append_1 : decode cX4_append 1 = .ok (.invokestatic 102, 3) := by decide +kernel
theorem dX4_append_4 : decode cX4_append 4 = .ok (.ifCond .ne 17, 3) := by decide +kernel
theorem dX4_append_7 : decode cX4_append 7 = .ok (.iload_n 2, 1) := by decide +kernel
theorem dX4_append_8 : decode cX4_append 8 = .ok (.invokestatic 102, 3) := by decide +kernel
theorem dX4_append_11 : decode cX4_append 11 = .ok (.ifCond .ne 10, 3) := by decide +kernel
theorem dX4_append_14 : decode cX4_append 14 = .ok (.iload_n 3, 1) := by decide +kernel
theorem dX4_append_15 : decode cX4_append 15 = .ok (.invokestatic 102, 3) := by decide +kernel
theorem dX4_append_18 : decode cX4_append 18 = .ok (.ifCond .eq 7, 3) := by decide +kernel
theorem dX4_append_21 : decode cX4_append 21 = .ok (.iconst 1, 1) := by decide +kernel
theorem dX4_append_22 : decode cX4_append 22 = .ok (.goto 4, 3) := by decide +kernel
theorem dX4_append_25 : decode cX4_append 25 = .ok (.iconst 0, 1) := by decide +kernel
theorem dX4_append_26 : decode cX4_append 26 = .ok (.istore 4, 2) := by decide +kernel
theorem dX4_append_28 : decode cX4_append 28 = .ok (.iload 4, 2) := by decide +kernel
theorem dX4_append_30 : decode cX4_append 30 = .ok (.ifCond .eq 7, 3) := by decide +kernel
theorem dX4_append_33 : decode cX4_append 33 = .ok (.iconst 0, 1) := by decide +kernel
theorem dX4_append_34 : decode cX4_append 34 = .ok (.goto 19, 3) := by decide +kernel
theorem dX4_append_37 : decode cX4_append 37 = .ok (.aload_n 0, 1) := by decide +kernel
theorem dX4_append_38 : decode cX4_append 38 = .ok (.aload_n 0, 1) := by decide +kernel
theorem dX4_append_39 : decode cX4_append 39 = .ok (.getfield 20, 3) := by decide +kernel
theorem dX4_append_42 : decode cX4_append 42 = .ok (.iload_n 2, 1) := by decide +kernel
theorem dX4_append_43 : decode cX4_append 43 = .ok (.iaload, 1) := by decide +kernel
theorem dX4_append_44 : decode cX4_append 44 = .ok (.aload_n 0, 1) := by decide +kernel
theorem dX4_append_45 : decode cX4_append 45 = .ok (.getfield 23, 3) := by decide +kernel
theorem dX4_append_48 : decode cX4_append 48 = .ok (.iload_n 2, 1) := by decide +kernel
theorem dX4_append_49 : decode cX4_append 49 = .ok (.laload, 1) := by decide +kernel
theorem dX4_append_50 : decode cX4_append 50 = .ok (.invokevirtual 132, 3) := by decide +kernel
theorem dX4_append_53 : decode cX4_append 53 = .ok (.istore 5, 2) := by decide +kernel
theorem dX4_append_55 : decode cX4_append 55 = .ok (.aload_n 0, 1) := by decide +kernel
theorem dX4_append_56 : decode cX4_append 56 = .ok (.iload 4, 2) := by decide +kernel
theorem dX4_append_58 : decode cX4_append 58 = .ok (.iload 5, 2) := by decide +kernel
theorem dX4_append_60 : decode cX4_append 60 = .ok (.ifCond .ge 7, 3) := by decide +kernel
theorem dX4_append_63 : decode cX4_append 63 = .ok (.iconst 1, 1) := by decide +kernel
theorem dX4_append_64 : decode cX4_append 64 = .ok (.goto 4, 3) := by decide +kernel
theorem dX4_append_67 : decode cX4_append 67 = .ok (.iconst 0, 1) := by decide +kernel
theorem dX4_append_68 : decode cX4_append 68 = .ok (.invokevirtual 110, 3) := by decide +kernel
theorem dX4_append_71 : decode cX4_append 71 = .ok (.ifCond .eq 4, 3) := by decide +kernel
theorem dX4_append_74 : decode cX4_append 74 = .ok (.return_, 1) := by decide +kernel
theorem dX4_append_75 : decode cX4_append 75 = .ok (.iload 5, 2) := by decide +kernel
theorem dX4_append_77 : decode cX4_append 77 = .ok (.ifCond .ne 21, 3) := by decide +kernel
theorem dX4_append_80 : decode cX4_append 80 = .ok (.aload_n 0, 1) := by decide +kernel
theorem dX4_append_81 : decode cX4_append 81 = .ok (.iload_n 1, 1) := by decide +kernel
theorem dX4_append_82 : decode cX4_append 82 = .ok (.aload_n 0, 1) := by decide +kernel
theorem dX4_append_83 : decode cX4_append 83 = .ok (.getfield 20, 3) := by decide +kernel
theorem dX4_append_86 : decode cX4_append 86 = .ok (.iload_n 3, 1) := by decide +kernel
theorem dX4_append_87 : decode cX4_append 87 = .ok (.iaload, 1) := by decide +kernel
theorem dX4_append_88 : decode cX4_append 88 = .ok (.aload_n 0, 1) := by decide +kernel
theorem dX4_append_89 : decode cX4_append 89 = .ok (.getfield 23, 3) := by decide +kernel
theorem dX4_append_92 : decode cX4_append 92 = .ok (.iload_n 3, 1) := by decide +kernel
theorem dX4_append_93 : decode cX4_append 93 = .ok (.laload, 1) := by decide +kernel
theorem dX4_append_94 : decode cX4_append 94 = .ok (.invokevirtual 114, 3) := by decide +kernel
theorem dX4_append_97 : decode cX4_append 97 = .ok (.return_, 1) := by decide +kernel
theorem dX4_append_98 : decode cX4_append 98 = .ok (.aload_n 0, 1) := by decide +kernel
theorem dX4_append_99 : decode cX4_append 99 = .ok (.iload 5, 2) := by decide +kernel
theorem dX4_append_101 : decode cX4_append 101 = .ok (.aload_n 0, 1) := by decide +kernel
theorem dX4_append_102 : decode cX4_append 102 = .ok (.getfield 20, 3) := by decide +kernel
theorem dX4_append_105 : decode cX4_append 105 = .ok (.iload_n 3, 1) := by decide +kernel
theorem dX4_append_106 : decode cX4_append 106 = .ok (.iaload, 1) := by decide +kernel
theorem dX4_append_107 : decode cX4_append 107 = .ok (.ifCond .ne 7, 3) := by decide +kernel
theorem dX4_append_110 : decode cX4_append 110 = .ok (.iconst 0, 1) := by decide +kernel
theorem dX4_append_111 : decode cX4_append 111 = .ok (.goto 4, 3) := by decide +kernel
theorem dX4_append_114 : decode cX4_append 114 = .ok (.iconst 1, 1) := by decide +kernel
theorem dX4_append_115 : decode cX4_append 115 = .ok (.iadd, 1) := by decide +kernel
theorem dX4_append_116 : decode cX4_append 116 = .ok (.invokevirtual 117, 3) := by decide +kernel
theorem dX4_append_119 : decode cX4_append 119 = .ok (.ifCond .ne 9, 3) := by decide +kernel
theorem dX4_append_122 : decode cX4_append 122 = .ok (.aload_n 0, 1) := by decide +kernel
theorem dX4_append_123 : decode cX4_append 123 = .ok (.iconst 3, 1) := by decide +kernel
theorem dX4_append_124 : decode cX4_append 124 = .ok (.putfield 54, 3) := by decide +kernel
theorem dX4_append_127 : decode cX4_append 127 = .ok (.return_, 1) := by decide +kernel
theorem dX4_append_128 : decode cX4_append 128 = .ok (.aload_n 0, 1) := by decide +kernel
theorem dX4_append_129 : decode cX4_append 129 = .ok (.getfield 73, 3) := by decide +kernel
theorem dX4_append_132 : decode cX4_append 132 = .ok (.istore 6, 2) := by decide +kernel
theorem dX4_append_134 : decode cX4_append 134 = .ok (.aload_n 0, 1) := by decide +kernel
theorem dX4_append_135 : decode cX4_append 135 = .ok (.aload_n 0, 1) := by decide +kernel
theorem dX4_append_136 : decode cX4_append 136 = .ok (.getfield 20, 3) := by decide +kernel
theorem dX4_append_139 : decode cX4_append 139 = .ok (.iload_n 2, 1) := by decide +kernel
theorem dX4_append_140 : decode cX4_append 140 = .ok (.iaload, 1) := by decide +kernel
theorem dX4_append_141 : decode cX4_append 141 = .ok (.aload_n 0, 1) := by decide +kernel
theorem dX4_append_142 : decode cX4_append 142 = .ok (.getfield 23, 3) := by decide +kernel
theorem dX4_append_145 : decode cX4_append 145 = .ok (.iload_n 2, 1) := by decide +kernel
theorem dX4_append_146 : decode cX4_append 146 = .ok (.laload, 1) := by decide +kernel
theorem dX4_append_147 : decode cX4_append 147 = .ok (.invokevirtual 69, 3) := by decide +kernel
theorem dX4_append_150 : decode cX4_append 150 = .ok (.iconst 0, 1) := by decide +kernel
theorem dX4_append_151 : decode cX4_append 151 = .ok (.istore 7, 2) := by decide +kernel
theorem dX4_append_153 : decode cX4_append 153 = .ok (.iload 7, 2) := by decide +kernel
theorem dX4_append_155 : decode cX4_append 155 = .ok (.iload 5, 2) := by decide +kernel
theorem dX4_append_157 : decode cX4_append 157 = .ok (.if_icmp .ge 84, 3) := by decide +kernel
theorem dX4_append_160 : decode cX4_append 160 = .ok (.aload_n 0, 1) := by decide +kernel
theorem dX4_append_161 : decode cX4_append 161 = .ok (.aload_n 0, 1) := by decide +kernel
theorem dX4_append_162 : decode cX4_append 162 = .ok (.getfield 61, 3) := by decide +kernel
theorem dX4_append_165 : decode cX4_append 165 = .ok (.invokevirtual 65, 3) := by decide +kernel
theorem dX4_append_168 : decode cX4_append 168 = .ok (.istore 8, 2) := by decide +kernel
theorem dX4_append_170 : decode cX4_append 170 = .ok (.iload 7, 2) := by decide +kernel
theorem dX4_append_172 : decode cX4_append 172 = .ok (.iload 5, 2) := by decide +kernel
theorem dX4_append_174 : decode cX4_append 174 = .ok (.iconst 1, 1) := by decide +kernel
theorem dX4_append_175 : decode cX4_append 175 = .ok (.isub, 1) := by decide +kernel
theorem dX4_append_176 : decode cX4_append 176 = .ok (.if_icmp .ne 7, 3) := by decide +kernel
theorem dX4_append_179 : decode cX4_append 179 = .ok (.iconst 1, 1) := by decide +kernel
theorem dX4_append_180 : decode cX4_append 180 = .ok (.goto 4, 3) := by decide +kernel
theorem dX4_append_183 : decode cX4_append 183 = .ok (.iconst 0, 1) := by decide +kernel
theorem dX4_append_184 : decode cX4_append 184 = .ok (.istore 9, 2) := by decide +kernel
theorem dX4_append_186 : decode cX4_append 186 = .ok (.aload_n 0, 1) := by decide +kernel
theorem dX4_append_187 : decode cX4_append 187 = .ok (.iload 9, 2) := by decide +kernel
theorem dX4_append_189 : decode cX4_append 189 = .ok (.ifCond .ne 7, 3) := by decide +kernel
theorem dX4_append_192 : decode cX4_append 192 = .ok (.iconst 0, 1) := by decide +kernel
theorem dX4_append_193 : decode cX4_append 193 = .ok (.goto 17, 3) := by decide +kernel
theorem dX4_append_196 : decode cX4_append 196 = .ok (.aload_n 0, 1) := by decide +kernel
theorem dX4_append_197 : decode cX4_append 197 = .ok (.getfield 20, 3) := by decide +kernel
theorem dX4_append_200 : decode cX4_append 200 = .ok (.iload_n 3, 1) := by decide +kernel
theorem dX4_append_201 : decode cX4_append 201 = .ok (.iaload, 1) := by decide +kernel
theorem dX4_append_202 : decode cX4_append 202 = .ok (.ifCond .ne 7, 3) := by decide +kernel
theorem dX4_append_205 : decode cX4_append 205 = .ok (.iconst 1, 1) := by decide +kernel
theorem dX4_append_206 : decode cX4_append 206 = .ok (.goto 4, 3) := by decide +kernel
theorem dX4_append_209 : decode cX4_append 209 = .ok (.iconst 2, 1) := by decide +kernel
theorem dX4_append_210 : decode cX4_append 210 = .ok (.aload_n 0, 1) := by decide +kernel
theorem dX4_append_211 : decode cX4_append 211 = .ok (.getfield 13, 3) := by decide +kernel
theorem dX4_append_214 : decode cX4_append 214 = .ok (.iload 8, 2) := by decide +kernel
theorem dX4_append_216 : decode cX4_append 216 = .ok (.iaload, 1) := by decide +kernel
theorem dX4_append_217 : decode cX4_append 217 = .ok (.aload_n 0, 1) := by decide +kernel
theorem dX4_append_218 : decode cX4_append 218 = .ok (.getfield 16, 3) := by decide +kernel
theorem dX4_append_221 : decode cX4_append 221 = .ok (.iload 8, 2) := by decide +kernel
theorem dX4_append_223 : decode cX4_append 223 = .ok (.laload, 1) := by decide +kernel
theorem dX4_append_224 : decode cX4_append 224 = .ok (.invokevirtual 120, 3) := by decide +kernel
theorem dX4_append_227 : decode cX4_append 227 = .ok (.istore 10, 2) := by decide +kernel
theorem dX4_append_229 : decode cX4_append 229 = .ok (.aload_n 0, 1) := by decide +kernel
theorem dX4_append_230 : decode cX4_append 230 = .ok (.iload 8, 2) := by decide +kernel
theorem dX4_append_232 : decode cX4_append 232 = .ok (.invokevirtual 85, 3) := by decide +kernel
theorem dX4_append_235 : decode cX4_append 235 = .ok (.iinc 7 1, 3) := by decide +kernel
theorem dX4_append_238 : decode cX4_append 238 = .ok (.goto (-85), 3) := by decide +kernel
theorem dX4_append_241 : decode cX4_append 241 = .ok (.aload_n 0, 1) := by decide +kernel
theorem dX4_append_242 : decode cX4_append 242 = .ok (.getfield 20, 3) := by decide +kernel
theorem dX4_append_245 : decode cX4_append 245 = .ok (.iload_n 3, 1) := by decide +kernel
theorem dX4_append_246 : decode cX4_append 246 = .ok (.iaload, 1) := by decide +kernel
theorem dX4_append_247 : decode cX4_append 247 = .ok (.ifCond .eq 22, 3) := by decide +kernel
theorem dX4_append_250 : decode cX4_append 250 = .ok (.aload_n 0, 1) := by decide +kernel
theorem dX4_append_251 : decode cX4_append 251 = .ok (.iconst 3, 1) := by decide +kernel
theorem dX4_append_252 : decode cX4_append 252 = .ok (.aload_n 0, 1) := by decide +kernel
theorem dX4_append_253 : decode cX4_append 253 = .ok (.getfield 20, 3) := by decide +kernel
theorem dX4_append_256 : decode cX4_append 256 = .ok (.iload_n 3, 1) := by decide +kernel
theorem dX4_append_257 : decode cX4_append 257 = .ok (.iaload, 1) := by decide +kernel
theorem dX4_append_258 : decode cX4_append 258 = .ok (.aload_n 0, 1) := by decide +kernel
theorem dX4_append_259 : decode cX4_append 259 = .ok (.getfield 23, 3) := by decide +kernel
theorem dX4_append_262 : decode cX4_append 262 = .ok (.iload_n 3, 1) := by decide +kernel
theorem dX4_append_263 : decode cX4_append 263 = .ok (.laload, 1) := by decide +kernel
theorem dX4_append_264 : decode cX4_append 264 = .ok (.invokevirtual 120, 3) := by decide +kernel
theorem dX4_append_267 : decode cX4_append 267 = .ok (.istore 7, 2) := by decide +kernel
theorem dX4_append_269 : decode cX4_append 269 = .ok (.aload_n 0, 1) := by decide +kernel
theorem dX4_append_270 : decode cX4_append 270 = .ok (.iload_n 1, 1) := by decide +kernel
theorem dX4_append_271 : decode cX4_append 271 = .ok (.iconst 2, 1) := by decide +kernel
theorem dX4_append_272 : decode cX4_append 272 = .ok (.iload 6, 2) := by decide +kernel
theorem dX4_append_274 : decode cX4_append 274 = .ok (.i2l, 1) := by decide +kernel
theorem dX4_append_275 : decode cX4_append 275 = .ok (.invokevirtual 114, 3) := by decide +kernel
theorem dX4_append_278 : decode cX4_append 278 = .ok (.return_, 1) := by decide +kernel
theorem dX4_kind_0 : decode cX4_kind 0 = .ok (.aload_n 0, 1) := by decide +kernel
theorem dX4_kind_1 : decode cX4_kind 1 = .ok (.iload_n 1, 1) := by decide +kernel
theorem dX4_kind_2 : decode cX4_kind 2 = .ok (.invokestatic 102, 3) := by decide +kernel
theorem dX4_kind_5 : decode cX4_kind 5 = .ok (.iconst 0, 1) := by decide +kernel
theorem dX4_kind_6 : decode cX4_kind 6 = .ok (.invokevirtual 110, 3) := by decide +kernel
theorem dX4_kind_9 : decode cX4_kind 9 = .ok (.ifCond .eq 5, 3) := by decide +kernel
theorem dX4_kind_12 : decode cX4_kind 12 = .ok (.iconst 0, 1) := by decide +kernel
theorem dX4_kind_13 : decode cX4_kind 13 = .ok (.ireturn, 1) := by decide +kernel
theorem dX4_kind_14 : decode cX4_kind 14 = .ok (.aload_n 0, 1) := by decide +kernel
theorem dX4_kind_15 : decode cX4_kind 15 = .ok (.getfield 20, 3) := by decide +kernel
theorem dX4_kind_18 : decode cX4_kind 18 = .ok (.iload_n 1, 1) := by decide +kernel
theorem dX4_kind_19 : decode cX4_kind 19 = .ok (.iaload, 1) := by decide +kernel
theorem dX4_kind_20 : decode cX4_kind 20 = .ok (.ireturn, 1) := by decide +kernel
theorem dX4_value_0 : decode cX4_value 0 = .ok (.aload_n 0, 1) := by decide +kernel
theorem dX4_value_1 : decode cX4_value 1 = .ok (.iload_n 1, 1) := by decide +kernel
theorem dX4_value_2 : decode cX4_value 2 = .ok (.invokestatic 102, 3) := by decide +kernel
theorem dX4_value_5 : decode cX4_value 5 = .ok (.iload_n 1, 1) := by decide +kernel
theorem dX4_value_6 : decode cX4_value 6 = .ok (.invokestatic 102, 3) := by decide +kernel
theorem dX4_value_9 : decode cX4_value 9 = .ok (.ifCond .ne 17, 3) := by decide +kernel
theorem dX4_value_12 : decode cX4_value 12 = .ok (.aload_n 0, 1) := by decide +kernel
theorem dX4_value_13 : decode cX4_value 13 = .ok (.getfield 20, 3) := by decide +kernel
theorem dX4_value_16 : decode cX4_value 16 = .ok (.iload_n 1, 1) := by decide +kernel
theorem dX4_value_17 : decode cX4_value 17 = .ok (.iaload, 1) := by decide +kernel
theorem dX4_value_18 : decode cX4_value 18 = .ok (.iconst 1, 1) := by decide +kernel
theorem dX4_value_19 : decode cX4_value 19 = .ok (.if_icmp .eq 7, 3) := by decide +kernel
theorem dX4_value_22 : decode cX4_value 22 = .ok (.iconst 1, 1) := by decide +kernel
theorem dX4_value_23 : decode cX4_value 23 = .ok (.goto 4, 3) := by decide +kernel
theorem dX4_value_26 : decode cX4_value 26 = .ok (.iconst 0, 1) := by decide +kernel
theorem dX4_value_27 : decode cX4_value 27 = .ok (.invokevirtual 110, 3) := by decide +kernel
theorem dX4_value_30 : decode cX4_value 30 = .ok (.ifCond .eq 5, 3) := by decide +kernel
theorem dX4_value_33 : decode cX4_value 33 = .ok (.lconst 0, 1) := by decide +kernel
theorem dX4_value_34 : decode cX4_value 34 = .ok (.lreturn, 1) := by decide +kernel
theorem dX4_value_35 : decode cX4_value 35 = .ok (.aload_n 0, 1) := by decide +kernel
theorem dX4_value_36 : decode cX4_value 36 = .ok (.getfield 23, 3) := by decide +kernel
theorem dX4_value_39 : decode cX4_value 39 = .ok (.iload_n 1, 1) := by decide +kernel
theorem dX4_value_40 : decode cX4_value 40 = .ok (.laload, 1) := by decide +kernel
theorem dX4_value_41 : decode cX4_value 41 = .ok (.lreturn, 1) := by decide +kernel
theorem dX4_same_0 : decode cX4_same 0 = .ok (.aload_n 0, 1) := by decide +kernel
theorem dX4_same_1 : decode cX4_same 1 = .ok (.iload_n 1, 1) := by decide +kernel
theorem dX4_same_2 : decode cX4_same 2 = .ok (.invokestatic 102, 3) := by decide +kernel
theorem dX4_same_5 : decode cX4_same 5 = .ok (.ifCond .ne 10, 3) := by decide +kernel
theorem dX4_same_8 : decode cX4_same 8 = .ok (.iload_n 2, 1) := by decide +kernel
theorem dX4_same_9 : decode cX4_same 9 = .ok (.invokestatic 102, 3) := by decide +kernel
theorem dX4_same_12 : decode cX4_same 12 = .ok (.ifCond .eq 7, 3) := by decide +kernel
theorem dX4_same_15 : decode cX4_same 15 = .ok (.iconst 1, 1) := by decide +kernel
theorem dX4_same_16 : decode cX4_same 16 = .ok (.goto 4, 3) := by decide +kernel
theorem dX4_same_19 : decode cX4_same 19 = .ok (.iconst 0, 1) := by decide +kernel
theorem dX4_same_20 : decode cX4_same 20 = .ok (.iconst 0, 1) := by decide +kernel
theorem dX4_same_21 : decode cX4_same 21 = .ok (.invokevirtual 110, 3) := by decide +kernel
theorem dX4_same_24 : decode cX4_same 24 = .ok (.ifCond .eq 5, 3) := by decide +kernel
theorem dX4_same_27 : decode cX4_same 27 = .ok (.iconst 0, 1) := by decide +kernel
theorem dX4_same_28 : decode cX4_same 28 = .ok (.ireturn, 1) := by decide +kernel
theorem dX4_same_29 : decode cX4_same 29 = .ok (.aload_n 0, 1) := by decide +kernel
theorem dX4_same_30 : decode cX4_same 30 = .ok (.aload_n 0, 1) := by decide +kernel
theorem dX4_same_31 : decode cX4_same 31 = .ok (.getfield 20, 3) := by decide +kernel
theorem dX4_same_34 : decode cX4_same 34 = .ok (.iload_n 1, 1) := by decide +kernel
theorem dX4_same_35 : decode cX4_same 35 = .ok (.iaload, 1) := by decide +kernel
theorem dX4_same_36 : decode cX4_same 36 = .ok (.aload_n 0, 1) := by decide +kernel
theorem dX4_same_37 : decode cX4_same 37 = .ok (.getfield 23, 3) := by decide +kernel
theorem dX4_same_40 : decode cX4_same 40 = .ok (.iload_n 1, 1) := by decide +kernel
theorem dX4_same_41 : decode cX4_same 41 = .ok (.laload, 1) := by decide +kernel
theorem dX4_same_42 : decode cX4_same 42 = .ok (.aload_n 0, 1) := by decide +kernel
theorem dX4_same_43 : decode cX4_same 43 = .ok (.getfield 20, 3) := by decide +kernel
theorem dX4_same_46 : decode cX4_same 46 = .ok (.iload_n 2, 1) := by decide +kernel
theorem dX4_same_47 : decode cX4_same 47 = .ok (.iaload, 1) := by decide +kernel
theorem dX4_same_48 : decode cX4_same 48 = .ok (.aload_n 0, 1) := by decide +kernel
theorem dX4_same_49 : decode cX4_same 49 = .ok (.getfield 23, 3) := by decide +kernel
theorem dX4_same_52 : decode cX4_same 52 = .ok (.iload_n 2, 1) := by decide +kernel
theorem dX4_same_53 : decode cX4_same 53 = .ok (.laload, 1) := by decide +kernel
theorem dX4_same_54 : decode cX4_same 54 = .ok (.invokevirtual 128, 3) := by decide +kernel
theorem dX4_same_57 : decode cX4_same 57 = .ok (.ireturn, 1) := by decide +kernel
theorem dX4_length_0 : decode cX4_length 0 = .ok (.aload_n 0, 1) := by decide +kernel
theorem dX4_length_1 : decode cX4_length 1 = .ok (.iload_n 1, 1) := by decide +kernel
theorem dX4_length_2 : decode cX4_length 2 = .ok (.invokestatic 102, 3) := by decide +kernel
theorem dX4_length_5 : decode cX4_length 5 = .ok (.iconst 0, 1) := by decide +kernel
theorem dX4_length_6 : decode cX4_length 6 = .ok (.invokevirtual 110, 3) := by decide +kernel
theorem dX4_length_9 : decode cX4_length 9 = .ok (.ifCond .eq 5, 3) := by decide +kernel
theorem dX4_length_12 : decode cX4_length 12 = .ok (.iconst 0, 1) := by decide +kernel
theorem dX4_length_13 : decode cX4_length 13 = .ok (.ireturn, 1) := by decide +kernel
theorem dX4_length_14 : decode cX4_length 14 = .ok (.aload_n 0, 1) := by decide +kernel
theorem dX4_length_15 : decode cX4_length 15 = .ok (.aload_n 0, 1) := by decide +kernel
theorem dX4_length_16 : decode cX4_length 16 = .ok (.getfield 20, 3) := by decide +kernel
theorem dX4_length_19 : decode cX4_length 19 = .ok (.iload_n 1, 1) := by decide +kernel
theorem dX4_length_20 : decode cX4_length 20 = .ok (.iaload, 1) := by decide +kernel
theorem dX4_length_21 : decode cX4_length 21 = .ok (.aload_n 0, 1) := by decide +kernel
theorem dX4_length_22 : decode cX4_length 22 = .ok (.getfield 23, 3) := by decide +kernel
theorem dX4_length_25 : decode cX4_length 25 = .ok (.iload_n 1, 1) := by decide +kernel
theorem dX4_length_26 : decode cX4_length 26 = .ok (.laload, 1) := by decide +kernel
theorem dX4_length_27 : decode cX4_length 27 = .ok (.invokevirtual 132, 3) := by decide +kernel
theorem dX4_length_30 : decode cX4_length 30 = .ok (.ireturn, 1) := by decide +kernel
theorem dX4_words_0 : decode cX4_words 0 = .ok (.aload_n 0, 1) := by decide +kernel
theorem dX4_words_1 : decode cX4_words 1 = .ok (.iload_n 1, 1) := by decide +kernel
theorem dX4_words_2 : decode cX4_words 2 = .ok (.invokestatic 102, 3) := by decide +kernel
theorem dX4_words_5 : decode cX4_words 5 = .ok (.iconst 0, 1) := by decide +kernel
theorem dX4_words_6 : decode cX4_words 6 = .ok (.invokevirtual 110, 3) := by decide +kernel
theorem dX4_words_9 : decode cX4_words 9 = .ok (.ifCond .eq 5, 3) := by decide +kernel
theorem dX4_words_12 : decode cX4_words 12 = .ok (.iconst 0, 1) := by decide +kernel
theorem dX4_words_13 : decode cX4_words 13 = .ok (.ireturn, 1) := by decide +kernel
theorem dX4_words_14 : decode cX4_words 14 = .ok (.iconst 0, 1) := by decide +kernel
theorem dX4_words_15 : decode cX4_words 15 = .ok (.istore_n 2, 1) := by decide +kernel
theorem dX4_words_16 : decode cX4_words 16 = .ok (.iload_n 2, 1) := by decide +kernel
theorem dX4_words_17 : decode cX4_words 17 = .ok (.bipush 120, 2) := by decide +kernel
theorem dX4_words_19 : decode cX4_words 19 = .ok (.if_icmp .ge 16, 3) := by decide +kernel
theorem dX4_words_22 : decode cX4_words 22 = .ok (.aload_n 0, 1) := by decide +kernel
theorem dX4_words_23 : decode cX4_words 23 = .ok (.getfield 50, 3) := by decide +kernel
theorem dX4_words_26 : decode cX4_words 26 = .ok (.iload_n 2, 1) := by decide +kernel
theorem dX4_words_27 : decode cX4_words 27 = .ok (.iconst 0, 1) := by decide +kernel
theorem dX4_words_28 : decode cX4_words 28 = .ok (.bastore, 1) := by decide +kernel
theorem dX4_words_29 : decode cX4_words 29 = .ok (.iinc 2 1, 3) := by decide +kernel
theorem dX4_words_32 : decode cX4_words 32 = .ok (.goto (-16), 3) := by decide +kernel
theorem dX4_words_35 : decode cX4_words 35 = .ok (.iconst 0, 1) := by decide +kernel
theorem dX4_words_36 : decode cX4_words 36 = .ok (.istore_n 2, 1) := by decide +kernel
theorem dX4_words_37 : decode cX4_words 37 = .ok (.aload_n 0, 1) := by decide +kernel
theorem dX4_words_38 : decode cX4_words 38 = .ok (.aload_n 0, 1) := by decide +kernel
theorem dX4_words_39 : decode cX4_words 39 = .ok (.getfield 20, 3) := by decide +kernel
theorem dX4_words_42 : decode cX4_words 42 = .ok (.iload_n 1, 1) := by decide +kernel
theorem dX4_words_43 : decode cX4_words 43 = .ok (.iaload, 1) := by decide +kernel
theorem dX4_words_44 : decode cX4_words 44 = .ok (.aload_n 0, 1) := by decide +kernel
theorem dX4_words_45 : decode cX4_words 45 = .ok (.getfield 23, 3) := by decide +kernel
theorem dX4_words_48 : decode cX4_words 48 = .ok (.iload_n 1, 1) := by decide +kernel
theorem dX4_words_49 : decode cX4_words 49 = .ok (.laload, 1) := by decide +kernel
theorem dX4_words_50 : decode cX4_words 50 = .ok (.invokevirtual 69, 3) := by decide +kernel
theorem dX4_words_53 : decode cX4_words 53 = .ok (.aload_n 0, 1) := by decide +kernel
theorem dX4_words_54 : decode cX4_words 54 = .ok (.getfield 58, 3) := by decide +kernel
theorem dX4_words_57 : decode cX4_words 57 = .ok (.iconst 2, 1) := by decide +kernel
theorem dX4_words_58 : decode cX4_words 58 = .ok (.if_icmp .ne 99, 3) := by decide +kernel
theorem dX4_words_61 : decode cX4_words 61 = .ok (.iconst 0, 1) := by decide +kernel
theorem dX4_words_62 : decode cX4_words 62 = .ok (.istore_n 3, 1) := by decide +kernel
theorem dX4_words_63 : decode cX4_words 63 = .ok (.aload_n 0, 1) := by decide +kernel
theorem dX4_words_64 : decode cX4_words 64 = .ok (.getfield 61, 3) := by decide +kernel
theorem dX4_words_67 : decode cX4_words 67 = .ok (.l2i, 1) := by decide +kernel
theorem dX4_words_68 : decode cX4_words 68 = .ok (.istore 4, 2) := by decide +kernel
theorem dX4_words_70 : decode cX4_words 70 = .ok (.aload_n 0, 1) := by decide +kernel
theorem dX4_words_71 : decode cX4_words 71 = .ok (.getfield 13, 3) := by decide +kernel
theorem dX4_words_74 : decode cX4_words 74 = .ok (.iload 4, 2) := by decide +kernel
theorem dX4_words_76 : decode cX4_words 76 = .ok (.iaload, 1) := by decide +kernel
theorem dX4_words_77 : decode cX4_words 77 = .ok (.iconst 3, 1) := by decide +kernel
theorem dX4_words_78 : decode cX4_words 78 = .ok (.if_icmp .ne 19, 3) := by decide +kernel
theorem dX4_words_81 : decode cX4_words 81 = .ok (.iinc 3 1, 3) := by decide +kernel
theorem dX4_words_84 : decode cX4_words 84 = .ok (.aload_n 0, 1) := by decide +kernel
theorem dX4_words_85 : decode cX4_words 85 = .ok (.getfield 16, 3) := by decide +kernel
theorem dX4_words_88 : decode cX4_words 88 = .ok (.iload 4, 2) := by decide +kernel
theorem dX4_words_90 : decode cX4_words 90 = .ok (.laload, 1) := by decide +kernel
theorem dX4_words_91 : decode cX4_words 91 = .ok (.l2i, 1) := by decide +kernel
theorem dX4_words_92 : decode cX4_words 92 = .ok (.istore 4, 2) := by decide +kernel
theorem dX4_words_94 : decode cX4_words 94 = .ok (.goto (-24), 3) := by decide +kernel
theorem dX4_words_97 : decode cX4_words 97 = .ok (.aload_n 0, 1) := by decide +kernel
theorem dX4_words_98 : decode cX4_words 98 = .ok (.aload_n 0, 1) := by decide +kernel
theorem dX4_words_99 : decode cX4_words 99 = .ok (.getfield 61, 3) := by decide +kernel
theorem dX4_words_102 : decode cX4_words 102 = .ok (.invokevirtual 65, 3) := by decide +kernel
theorem dX4_words_105 : decode cX4_words 105 = .ok (.istore 4, 2) := by decide +kernel
theorem dX4_words_107 : decode cX4_words 107 = .ok (.aload_n 0, 1) := by decide +kernel
theorem dX4_words_108 : decode cX4_words 108 = .ok (.getfield 50, 3) := by decide +kernel
theorem dX4_words_111 : decode cX4_words 111 = .ok (.iload 4, 2) := by decide +kernel
theorem dX4_words_113 : decode cX4_words 113 = .ok (.baload, 1) := by decide +kernel
theorem dX4_words_114 : decode cX4_words 114 = .ok (.ifCond .eq 5, 3) := by decide +kernel
theorem dX4_words_117 : decode cX4_words 117 = .ok (.iload_n 2, 1) := by decide +kernel
theorem dX4_words_118 : decode cX4_words 118 = .ok (.ireturn, 1) := by decide +kernel
theorem dX4_words_119 : decode cX4_words 119 = .ok (.aload_n 0, 1) := by decide +kernel
theorem dX4_words_120 : decode cX4_words 120 = .ok (.getfield 50, 3) := by decide +kernel
theorem dX4_words_123 : decode cX4_words 123 = .ok (.iload 4, 2) := by decide +kernel
theorem dX4_words_125 : decode cX4_words 125 = .ok (.iconst 1, 1) := by decide +kernel
theorem dX4_words_126 : decode cX4_words 126 = .ok (.bastore, 1) := by decide +kernel
theorem dX4_words_127 : decode cX4_words 127 = .ok (.iload_n 2, 1) := by decide +kernel
theorem dX4_words_128 : decode cX4_words 128 = .ok (.iload_n 3, 1) := by decide +kernel
theorem dX4_words_129 : decode cX4_words 129 = .ok (.aload_n 0, 1) := by decide +kernel
theorem dX4_words_130 : decode cX4_words 130 = .ok (.getfield 7, 3) := by decide +kernel
theorem dX4_words_133 : decode cX4_words 133 = .ok (.iload 4, 2) := by decide +kernel
theorem dX4_words_135 : decode cX4_words 135 = .ok (.iaload, 1) := by decide +kernel
theorem dX4_words_136 : decode cX4_words 136 = .ok (.iconst 2, 1) := by decide +kernel
theorem dX4_words_137 : decode cX4_words 137 = .ok (.if_icmp .ne 7, 3) := by decide +kernel
theorem dX4_words_140 : decode cX4_words 140 = .ok (.iconst 2, 1) := by decide +kernel
theorem dX4_words_141 : decode cX4_words 141 = .ok (.goto 4, 3) := by decide +kernel
theorem dX4_words_144 : decode cX4_words 144 = .ok (.iconst 1, 1) := by decide +kernel
theorem dX4_words_145 : decode cX4_words 145 = .ok (.iadd, 1) := by decide +kernel
theorem dX4_words_146 : decode cX4_words 146 = .ok (.iadd, 1) := by decide +kernel
theorem dX4_words_147 : decode cX4_words 147 = .ok (.istore_n 2, 1) := by decide +kernel
theorem dX4_words_148 : decode cX4_words 148 = .ok (.aload_n 0, 1) := by decide +kernel
theorem dX4_words_149 : decode cX4_words 149 = .ok (.iload 4, 2) := by decide +kernel
theorem dX4_words_151 : decode cX4_words 151 = .ok (.invokevirtual 85, 3) := by decide +kernel
theorem dX4_words_154 : decode cX4_words 154 = .ok (.goto (-101), 3) := by decide +kernel
theorem dX4_words_157 : decode cX4_words 157 = .ok (.iload_n 2, 1) := by decide +kernel
theorem dX4_words_158 : decode cX4_words 158 = .ok (.ireturn, 1) := by decide +kernel
theorem dX4_meet_0 : decode cX4_meet 0 = .ok (.iload_n 1, 1) := by decide +kernel
theorem dX4_meet_1 : decode cX4_meet 1 = .ok (.iconst 2, 1) := by decide +kernel
theorem dX4_meet_2 : decode cX4_meet 2 = .ok (.if_icmp .ne 9, 3) := by decide +kernel
theorem dX4_meet_5 : decode cX4_meet 5 = .ok (.iload 4, 2) := by decide +kernel
theorem dX4_meet_7 : decode cX4_meet 7 = .ok (.iconst 2, 1) := by decide +kernel
theorem dX4_meet_8 : decode cX4_meet 8 = .ok (.if_icmp .eq 26, 3) := by decide +kernel
theorem dX4_meet_11 : decode cX4_meet 11 = .ok (.iload_n 1, 1) := by decide +kernel
theorem dX4_meet_12 : decode cX4_meet 12 = .ok (.iload 4, 2) := by decide +kernel
theorem dX4_meet_14 : decode cX4_meet 14 = .ok (.if_icmp .ne 18, 3) := by decide +kernel
theorem dX4_meet_17 : decode cX4_meet 17 = .ok (.iload_n 1, 1) := by decide +kernel
theorem dX4_meet_18 : decode cX4_meet 18 = .ok (.ifCond .eq 10, 3) := by decide +kernel
theorem dX4_meet_21 : decode cX4_meet 21 = .ok (.lload_n 2, 1) := by decide +kernel
theorem dX4_meet_22 : decode cX4_meet 22 = .ok (.lload 5, 2) := by decide +kernel
theorem dX4_meet_24 : decode cX4_meet 24 = .ok (.lcmp, 1) := by decide +kernel
theorem dX4_meet_25 : decode cX4_meet 25 = .ok (.ifCond .ne 7, 3) := by decide +kernel
theorem dX4_meet_28 : decode cX4_meet 28 = .ok (.iconst 1, 1) := by decide +kernel
theorem dX4_meet_29 : decode cX4_meet 29 = .ok (.goto 4, 3) := by decide +kernel
theorem dX4_meet_32 : decode cX4_meet 32 = .ok (.iconst 0, 1) := by decide +kernel
theorem dX4_meet_33 : decode cX4_meet 33 = .ok (.ireturn, 1) := by decide +kernel
theorem dX4_meet_34 : decode cX4_meet 34 = .ok (.aload_n 0, 1) := by decide +kernel
theorem dX4_meet_35 : decode cX4_meet 35 = .ok (.lload_n 2, 1) := by decide +kernel
theorem dX4_meet_36 : decode cX4_meet 36 = .ok (.invokevirtual 65, 3) := by decide +kernel
theorem dX4_meet_39 : decode cX4_meet 39 = .ok (.istore 7, 2) := by decide +kernel
theorem dX4_meet_41 : decode cX4_meet 41 = .ok (.aload_n 0, 1) := by decide +kernel
theorem dX4_meet_42 : decode cX4_meet 42 = .ok (.lload 5, 2) := by decide +kernel
theorem dX4_meet_44 : decode cX4_meet 44 = .ok (.invokevirtual 65, 3) := by decide +kernel
theorem dX4_meet_47 : decode cX4_meet 47 = .ok (.istore 8, 2) := by decide +kernel
theorem dX4_meet_49 : decode cX4_meet 49 = .ok (.aload_n 0, 1) := by decide +kernel
theorem dX4_meet_50 : decode cX4_meet 50 = .ok (.getfield 41, 3) := by decide +kernel
theorem dX4_meet_53 : decode cX4_meet 53 = .ok (.iload 7, 2) := by decide +kernel
theorem dX4_meet_55 : decode cX4_meet 55 = .ok (.iaload, 1) := by decide +kernel
theorem dX4_meet_56 : decode cX4_meet 56 = .ok (.iconst (-1), 1) := by decide +kernel
theorem dX4_meet_57 : decode cX4_meet 57 = .ok (.if_icmp .ne 53, 3) := by decide +kernel
theorem dX4_meet_60 : decode cX4_meet 60 = .ok (.aload_n 0, 1) := by decide +kernel
theorem dX4_meet_61 : decode cX4_meet 61 = .ok (.getfield 44, 3) := by decide +kernel
theorem dX4_meet_64 : decode cX4_meet 64 = .ok (.iload 8, 2) := by decide +kernel
theorem dX4_meet_66 : decode cX4_meet 66 = .ok (.iaload, 1) := by decide +kernel
theorem dX4_meet_67 : decode cX4_meet 67 = .ok (.iconst (-1), 1) := by decide +kernel
theorem dX4_meet_68 : decode cX4_meet 68 = .ok (.if_icmp .ne 42, 3) := by decide +kernel
theorem dX4_meet_71 : decode cX4_meet 71 = .ok (.aload_n 0, 1) := by decide +kernel
theorem dX4_meet_72 : decode cX4_meet 72 = .ok (.getfield 41, 3) := by decide +kernel
theorem dX4_meet_75 : decode cX4_meet 75 = .ok (.iload 7, 2) := by decide +kernel
theorem dX4_meet_77 : decode cX4_meet 77 = .ok (.iload 8, 2) := by decide +kernel
theorem dX4_meet_79 : decode cX4_meet 79 = .ok (.iastore, 1) := by decide +kernel
theorem dX4_meet_80 : decode cX4_meet 80 = .ok (.aload_n 0, 1) := by decide +kernel
theorem dX4_meet_81 : decode cX4_meet 81 = .ok (.getfield 44, 3) := by decide +kernel
theorem dX4_meet_84 : decode cX4_meet 84 = .ok (.iload 8, 2) := by decide +kernel
theorem dX4_meet_86 : decode cX4_meet 86 = .ok (.iload 7, 2) := by decide +kernel
theorem dX4_meet_88 : decode cX4_meet 88 = .ok (.iastore, 1) := by decide +kernel
theorem dX4_meet_89 : decode cX4_meet 89 = .ok (.aload_n 0, 1) := by decide +kernel
theorem dX4_meet_90 : decode cX4_meet 90 = .ok (.getfield 47, 3) := by decide +kernel
theorem dX4_meet_93 : decode cX4_meet 93 = .ok (.aload_n 0, 1) := by decide +kernel
theorem dX4_meet_94 : decode cX4_meet 94 = .ok (.getfield 79, 3) := by decide +kernel
theorem dX4_meet_97 : decode cX4_meet 97 = .ok (.iload 7, 2) := by decide +kernel
theorem dX4_meet_99 : decode cX4_meet 99 = .ok (.iastore, 1) := by decide +kernel
theorem dX4_meet_100 : decode cX4_meet 100 = .ok (.aload_n 0, 1) := by decide +kernel
theorem dX4_meet_101 : decode cX4_meet 101 = .ok (.dup, 1) := by decide +kernel
theorem dX4_meet_102 : decode cX4_meet 102 = .ok (.getfield 79, 3) := by decide +kernel
theorem dX4_meet_105 : decode cX4_meet 105 = .ok (.iconst 1, 1) := by decide +kernel
theorem dX4_meet_106 : decode cX4_meet 106 = .ok (.iadd, 1) := by decide +kernel
theorem dX4_meet_107 : decode cX4_meet 107 = .ok (.putfield 79, 3) := by decide +kernel
theorem dX4_meet_110 : decode cX4_meet 110 = .ok (.aload_n 0, 1) := by decide +kernel
theorem dX4_meet_111 : decode cX4_meet 111 = .ok (.getfield 41, 3) := by decide +kernel
theorem dX4_meet_114 : decode cX4_meet 114 = .ok (.iload 7, 2) := by decide +kernel
theorem dX4_meet_116 : decode cX4_meet 116 = .ok (.iaload, 1) := by decide +kernel
theorem dX4_meet_117 : decode cX4_meet 117 = .ok (.iload 8, 2) := by decide +kernel
theorem dX4_meet_119 : decode cX4_meet 119 = .ok (.if_icmp .ne 7, 3) := by decide +kernel
theorem dX4_meet_122 : decode cX4_meet 122 = .ok (.iconst 1, 1) := by decide +kernel
theorem dX4_meet_123 : decode cX4_meet 123 = .ok (.goto 4, 3) := by decide +kernel
theorem dX4_meet_126 : decode cX4_meet 126 = .ok (.iconst 0, 1) := by decide +kernel
theorem dX4_meet_127 : decode cX4_meet 127 = .ok (.ireturn, 1) := by decide +kernel
theorem dX4_alike_0 : decode cX4_alike 0 = .ok (.aload_n 0, 1) := by decide +kernel
theorem dX4_alike_1 : decode cX4_alike 1 = .ok (.iload_n 1, 1) := by decide +kernel
theorem dX4_alike_2 : decode cX4_alike 2 = .ok (.invokestatic 102, 3) := by decide +kernel
theorem dX4_alike_5 : decode cX4_alike 5 = .ok (.ifCond .ne 10, 3) := by decide +kernel
theorem dX4_alike_8 : decode cX4_alike 8 = .ok (.iload_n 2, 1) := by decide +kernel
theorem dX4_alike_9 : decode cX4_alike 9 = .ok (.invokestatic 102, 3) := by decide +kernel
theorem dX4_alike_12 : decode cX4_alike 12 = .ok (.ifCond .eq 7, 3) := by decide +kernel
theorem dX4_alike_15 : decode cX4_alike 15 = .ok (.iconst 1, 1) := by decide +kernel
theorem dX4_alike_16 : decode cX4_alike 16 = .ok (.goto 4, 3) := by decide +kernel
theorem dX4_alike_19 : decode cX4_alike 19 = .ok (.iconst 0, 1) := by decide +kernel
theorem dX4_alike_20 : decode cX4_alike 20 = .ok (.iconst 0, 1) := by decide +kernel
theorem dX4_alike_21 : decode cX4_alike 21 = .ok (.invokevirtual 110, 3) := by decide +kernel
theorem dX4_alike_24 : decode cX4_alike 24 = .ok (.ifCond .eq 5, 3) := by decide +kernel
theorem dX4_alike_27 : decode cX4_alike 27 = .ok (.iconst 0, 1) := by decide +kernel
theorem dX4_alike_28 : decode cX4_alike 28 = .ok (.ireturn, 1) := by decide +kernel
theorem dX4_alike_29 : decode cX4_alike 29 = .ok (.aload_n 0, 1) := by decide +kernel
theorem dX4_alike_30 : decode cX4_alike 30 = .ok (.aload_n 0, 1) := by decide +kernel
theorem dX4_alike_31 : decode cX4_alike 31 = .ok (.getfield 20, 3) := by decide +kernel
theorem dX4_alike_34 : decode cX4_alike 34 = .ok (.iload_n 1, 1) := by decide +kernel
theorem dX4_alike_35 : decode cX4_alike 35 = .ok (.iaload, 1) := by decide +kernel
theorem dX4_alike_36 : decode cX4_alike 36 = .ok (.aload_n 0, 1) := by decide +kernel
theorem dX4_alike_37 : decode cX4_alike 37 = .ok (.getfield 23, 3) := by decide +kernel
theorem dX4_alike_40 : decode cX4_alike 40 = .ok (.iload_n 1, 1) := by decide +kernel
theorem dX4_alike_41 : decode cX4_alike 41 = .ok (.laload, 1) := by decide +kernel
theorem dX4_alike_42 : decode cX4_alike 42 = .ok (.aload_n 0, 1) := by decide +kernel
theorem dX4_alike_43 : decode cX4_alike 43 = .ok (.getfield 20, 3) := by decide +kernel
theorem dX4_alike_46 : decode cX4_alike 46 = .ok (.iload_n 2, 1) := by decide +kernel
theorem dX4_alike_47 : decode cX4_alike 47 = .ok (.iaload, 1) := by decide +kernel
theorem dX4_alike_48 : decode cX4_alike 48 = .ok (.aload_n 0, 1) := by decide +kernel
theorem dX4_alike_49 : decode cX4_alike 49 = .ok (.getfield 23, 3) := by decide +kernel
theorem dX4_alike_52 : decode cX4_alike 52 = .ok (.iload_n 2, 1) := by decide +kernel
theorem dX4_alike_53 : decode cX4_alike 53 = .ok (.laload, 1) := by decide +kernel
theorem dX4_alike_54 : decode cX4_alike 54 = .ok (.invokevirtual 128, 3) := by decide +kernel
theorem dX4_alike_57 : decode cX4_alike 57 = .ok (.ifCond .eq 5, 3) := by decide +kernel
theorem dX4_alike_60 : decode cX4_alike 60 = .ok (.iconst 1, 1) := by decide +kernel
theorem dX4_alike_61 : decode cX4_alike 61 = .ok (.ireturn, 1) := by decide +kernel
theorem dX4_alike_62 : decode cX4_alike 62 = .ok (.iconst 0, 1) := by decide +kernel
theorem dX4_alike_63 : decode cX4_alike 63 = .ok (.istore_n 3, 1) := by decide +kernel
theorem dX4_alike_64 : decode cX4_alike 64 = .ok (.iload_n 3, 1) := by decide +kernel
theorem dX4_alike_65 : decode cX4_alike 65 = .ok (.bipush 120, 2) := by decide +kernel
theorem dX4_alike_67 : decode cX4_alike 67 = .ok (.if_icmp .ge 23, 3) := by decide +kernel
theorem dX4_alike_70 : decode cX4_alike 70 = .ok (.aload_n 0, 1) := by decide +kernel
theorem dX4_alike_71 : decode cX4_alike 71 = .ok (.getfield 41, 3) := by decide +kernel
theorem dX4_alike_74 : decode cX4_alike 74 = .ok (.iload_n 3, 1) := by decide +kernel
theorem dX4_alike_75 : decode cX4_alike 75 = .ok (.iconst (-1), 1) := by decide +kernel
theorem dX4_alike_76 : decode cX4_alike 76 = .ok (.iastore, 1) := by decide +kernel
theorem dX4_alike_77 : decode cX4_alike 77 = .ok (.aload_n 0, 1) := by decide +kernel
theorem dX4_alike_78 : decode cX4_alike 78 = .ok (.getfield 44, 3) := by decide +kernel
theorem dX4_alike_81 : decode cX4_alike 81 = .ok (.iload_n 3, 1) := by decide +kernel
theorem dX4_alike_82 : decode cX4_alike 82 = .ok (.iconst (-1), 1) := by decide +kernel
theorem dX4_alike_83 : decode cX4_alike 83 = .ok (.iastore, 1) := by decide +kernel
theorem dX4_alike_84 : decode cX4_alike 84 = .ok (.iinc 3 1, 3) := by decide +kernel
theorem dX4_alike_87 : decode cX4_alike 87 = .ok (.goto (-23), 3) := by decide +kernel
theorem dX4_alike_90 : decode cX4_alike 90 = .ok (.aload_n 0, 1) := by decide +kernel
theorem dX4_alike_91 : decode cX4_alike 91 = .ok (.iconst 0, 1) := by decide +kernel
theorem dX4_alike_92 : decode cX4_alike 92 = .ok (.putfield 79, 3) := by decide +kernel
theorem dX4_alike_95 : decode cX4_alike 95 = .ok (.aload_n 0, 1) := by decide +kernel
theorem dX4_alike_96 : decode cX4_alike 96 = .ok (.aload_n 0, 1) := by decide +kernel
theorem dX4_alike_97 : decode cX4_alike 97 = .ok (.getfield 20, 3) := by decide +kernel
theorem dX4_alike_100 : decode cX4_alike 100 = .ok (.iload_n 1, 1) := by decide +kernel
theorem dX4_alike_101 : decode cX4_alike 101 = .ok (.iaload, 1) := by decide +kernel
theorem dX4_alike_102 : decode cX4_alike 102 = .ok (.aload_n 0, 1) := by decide +kernel
theorem dX4_alike_103 : decode cX4_alike 103 = .ok (.getfield 23, 3) := by decide +kernel
theorem dX4_alike_106 : decode cX4_alike 106 = .ok (.iload_n 1, 1) := by decide +kernel
theorem dX4_alike_107 : decode cX4_alike 107 = .ok (.laload, 1) := by decide +kernel
theorem dX4_alike_108 : decode cX4_alike 108 = .ok (.aload_n 0, 1) := by decide +kernel
theorem dX4_alike_109 : decode cX4_alike 109 = .ok (.getfield 20, 3) := by decide +kernel
theorem dX4_alike_112 : decode cX4_alike 112 = .ok (.iload_n 2, 1) := by decide +kernel
theorem dX4_alike_113 : decode cX4_alike 113 = .ok (.iaload, 1) := by decide +kernel
theorem dX4_alike_114 : decode cX4_alike 114 = .ok (.aload_n 0, 1) := by decide +kernel
theorem dX4_alike_115 : decode cX4_alike 115 = .ok (.getfield 23, 3) := by decide +kernel
theorem dX4_alike_118 : decode cX4_alike 118 = .ok (.iload_n 2, 1) := by decide +kernel
theorem dX4_alike_119 : decode cX4_alike 119 = .ok (.laload, 1) := by decide +kernel
theorem dX4_alike_120 : decode cX4_alike 120 = .ok (.invokevirtual 136, 3) := by decide +kernel
theorem dX4_alike_123 : decode cX4_alike 123 = .ok (.istore_n 3, 1) := by decide +kernel
theorem dX4_alike_124 : decode cX4_alike 124 = .ok (.iconst 0, 1) := by decide +kernel
theorem dX4_alike_125 : decode cX4_alike 125 = .ok (.istore 4, 2) := by decide +kernel
theorem dX4_alike_127 : decode cX4_alike 127 = .ok (.iload 4, 2) := by decide +kernel
theorem dX4_alike_129 : decode cX4_alike 129 = .ok (.aload_n 0, 1) := by decide +kernel
theorem dX4_alike_130 : decode cX4_alike 130 = .ok (.getfield 79, 3) := by decide +kernel
theorem dX4_alike_133 : decode cX4_alike 133 = .ok (.if_icmp .ge 117, 3) := by decide +kernel
theorem dX4_alike_136 : decode cX4_alike 136 = .ok (.iload_n 3, 1) := by decide +kernel
theorem dX4_alike_137 : decode cX4_alike 137 = .ok (.ifCond .eq 113, 3) := by decide +kernel
theorem dX4_alike_140 : decode cX4_alike 140 = .ok (.aload_n 0, 1) := by decide +kernel
theorem dX4_alike_141 : decode cX4_alike 141 = .ok (.getfield 47, 3) := by decide +kernel
theorem dX4_alike_144 : decode cX4_alike 144 = .ok (.iload 4, 2) := by decide +kernel
theorem dX4_alike_146 : decode cX4_alike 146 = .ok (.iaload, 1) := by decide +kernel
theorem dX4_alike_147 : decode cX4_alike 147 = .ok (.istore 5, 2) := by decide +kernel
theorem dX4_alike_149 : decode cX4_alike 149 = .ok (.aload_n 0, 1) := by decide +kernel
theorem dX4_alike_150 : decode cX4_alike 150 = .ok (.getfield 41, 3) := by decide +kernel
theorem dX4_alike_153 : decode cX4_alike 153 = .ok (.iload 5, 2) := by decide +kernel
theorem dX4_alike_155 : decode cX4_alike 155 = .ok (.iaload, 1) := by decide +kernel
theorem dX4_alike_156 : decode cX4_alike 156 = .ok (.istore 6, 2) := by decide +kernel
theorem dX4_alike_158 : decode cX4_alike 158 = .ok (.aload_n 0, 1) := by decide +kernel
theorem dX4_alike_159 : decode cX4_alike 159 = .ok (.aload_n 0, 1) := by decide +kernel
theorem dX4_alike_160 : decode cX4_alike 160 = .ok (.getfield 13, 3) := by decide +kernel
theorem dX4_alike_163 : decode cX4_alike 163 = .ok (.iload 5, 2) := by decide +kernel
theorem dX4_alike_165 : decode cX4_alike 165 = .ok (.iaload, 1) := by decide +kernel
theorem dX4_alike_166 : decode cX4_alike 166 = .ok (.aload_n 0, 1) := by decide +kernel
theorem dX4_alike_167 : decode cX4_alike 167 = .ok (.getfield 16, 3) := by decide +kernel
theorem dX4_alike_170 : decode cX4_alike 170 = .ok (.iload 5, 2) := by decide +kernel
theorem dX4_alike_172 : decode cX4_alike 172 = .ok (.laload, 1) := by decide +kernel
theorem dX4_alike_173 : decode cX4_alike 173 = .ok (.aload_n 0, 1) := by decide +kernel
theorem dX4_alike_174 : decode cX4_alike 174 = .ok (.getfield 13, 3) := by decide +kernel
theorem dX4_alike_177 : decode cX4_alike 177 = .ok (.iload 6, 2) := by decide +kernel
theorem dX4_alike_179 : decode cX4_alike 179 = .ok (.iaload, 1) := by decide +kernel
theorem dX4_alike_180 : decode cX4_alike 180 = .ok (.aload_n 0, 1) := by decide +kernel
theorem dX4_alike_181 : decode cX4_alike 181 = .ok (.getfield 16, 3) := by decide +kernel
theorem dX4_alike_184 : decode cX4_alike 184 = .ok (.iload 6, 2) := by decide +kernel
theorem dX4_alike_186 : decode cX4_alike 186 = .ok (.laload, 1) := by decide +kernel
theorem dX4_alike_187 : decode cX4_alike 187 = .ok (.invokevirtual 136, 3) := by decide +kernel
theorem dX4_alike_190 : decode cX4_alike 190 = .ok (.istore_n 3, 1) := by decide +kernel
theorem dX4_alike_191 : decode cX4_alike 191 = .ok (.aload_n 0, 1) := by decide +kernel
theorem dX4_alike_192 : decode cX4_alike 192 = .ok (.iload 5, 2) := by decide +kernel
theorem dX4_alike_194 : decode cX4_alike 194 = .ok (.invokevirtual 85, 3) := by decide +kernel
theorem dX4_alike_197 : decode cX4_alike 197 = .ok (.aload_n 0, 1) := by decide +kernel
theorem dX4_alike_198 : decode cX4_alike 198 = .ok (.getfield 58, 3) := by decide +kernel
theorem dX4_alike_201 : decode cX4_alike 201 = .ok (.istore 7, 2) := by decide +kernel
theorem dX4_alike_203 : decode cX4_alike 203 = .ok (.aload_n 0, 1) := by decide +kernel
theorem dX4_alike_204 : decode cX4_alike 204 = .ok (.getfield 61, 3) := by decide +kernel
theorem dX4_alike_207 : decode cX4_alike 207 = .ok (.lstore 8, 2) := by decide +kernel
theorem dX4_alike_209 : decode cX4_alike 209 = .ok (.aload_n 0, 1) := by decide +kernel
theorem dX4_alike_210 : decode cX4_alike 210 = .ok (.iload 6, 2) := by decide +kernel
theorem dX4_alike_212 : decode cX4_alike 212 = .ok (.invokevirtual 85, 3) := by decide +kernel
theorem dX4_alike_215 : decode cX4_alike 215 = .ok (.iload_n 3, 1) := by decide +kernel
theorem dX4_alike_216 : decode cX4_alike 216 = .ok (.ifCond .eq 26, 3) := by decide +kernel
theorem dX4_alike_219 : decode cX4_alike 219 = .ok (.aload_n 0, 1) := by decide +kernel
theorem dX4_alike_220 : decode cX4_alike 220 = .ok (.iload 7, 2) := by decide +kernel
theorem dX4_alike_222 : decode cX4_alike 222 = .ok (.lload 8, 2) := by decide +kernel
theorem dX4_alike_224 : decode cX4_alike 224 = .ok (.aload_n 0, 1) := by decide +kernel
theorem dX4_alike_225 : decode cX4_alike 225 = .ok (.getfield 58, 3) := by decide +kernel
theorem dX4_alike_228 : decode cX4_alike 228 = .ok (.aload_n 0, 1) := by decide +kernel
theorem dX4_alike_229 : decode cX4_alike 229 = .ok (.getfield 61, 3) := by decide +kernel
theorem dX4_alike_232 : decode cX4_alike 232 = .ok (.invokevirtual 136, 3) := by decide +kernel
theorem dX4_alike_235 : decode cX4_alike 235 = .ok (.ifCond .eq 7, 3) := by decide +kernel
theorem dX4_alike_238 : decode cX4_alike 238 = .ok (.iconst 1, 1) := by decide +kernel
theorem dX4_alike_239 : decode cX4_alike 239 = .ok (.goto 4, 3) := by decide +kernel
theorem dX4_alike_242 : decode cX4_alike 242 = .ok (.iconst 0, 1) := by decide +kernel
theorem dX4_alike_243 : decode cX4_alike 243 = .ok (.istore_n 3, 1) := by decide +kernel
theorem dX4_alike_244 : decode cX4_alike 244 = .ok (.iinc 4 1, 3) := by decide +kernel
theorem dX4_alike_247 : decode cX4_alike 247 = .ok (.goto (-120), 3) := by decide +kernel
theorem dX4_alike_250 : decode cX4_alike 250 = .ok (.iload_n 3, 1) := by decide +kernel
theorem dX4_alike_251 : decode cX4_alike 251 = .ok (.ireturn, 1) := by decide +kernel
theorem dX4_collect_0 : decode cX4_collect 0 = .ok (.aload_n 0, 1) := by decide +kernel
theorem dX4_collect_1 : decode cX4_collect 1 = .ok (.iconst 0, 1) := by decide +kernel
theorem dX4_collect_2 : decode cX4_collect 2 = .ok (.putfield 54, 3) := by decide +kernel
theorem dX4_collect_5 : decode cX4_collect 5 = .ok (.aload_n 0, 1) := by decide +kernel
theorem dX4_collect_6 : decode cX4_collect 6 = .ok (.invokevirtual 76, 3) := by decide +kernel
theorem dX4_collect_9 : decode cX4_collect 9 = .ok (.aload_n 0, 1) := by decide +kernel
theorem dX4_collect_10 : decode cX4_collect 10 = .ok (.getfield 73, 3) := by decide +kernel
theorem dX4_collect_13 : decode cX4_collect 13 = .ok (.ireturn, 1) := by decide +kernel
theorem dX4_about_0 : decode cX4_about 0 = .ok (.aload_n 0, 1) := by decide +kernel
theorem dX4_about_1 : decode cX4_about 1 = .ok (.iconst 0, 1) := by decide +kernel
theorem dX4_about_2 : decode cX4_about 2 = .ok (.putfield 54, 3) := by decide +kernel
theorem dX4_about_5 : decode cX4_about 5 = .ok (.iconst 0, 1) := by decide +kernel
theorem dX4_about_6 : decode cX4_about 6 = .ok (.istore_n 2, 1) := by decide +kernel
theorem dX4_about_7 : decode cX4_about 7 = .ok (.iconst 0, 1) := by decide +kernel
theorem dX4_about_8 : decode cX4_about 8 = .ok (.istore_n 3, 1) := by decide +kernel
theorem dX4_about_9 : decode cX4_about 9 = .ok (.iload_n 3, 1) := by decide +kernel
theorem dX4_about_10 : decode cX4_about 10 = .ok (.aload_n 0, 1) := by decide +kernel
theorem dX4_about_11 : decode cX4_about 11 = .ok (.getfield 73, 3) := by decide +kernel
theorem dX4_about_14 : decode cX4_about 14 = .ok (.if_icmp .ge 27, 3) := by decide +kernel
theorem dX4_about_17 : decode cX4_about 17 = .ok (.iload_n 2, 1) := by decide +kernel
theorem dX4_about_18 : decode cX4_about 18 = .ok (.aload_n 0, 1) := by decide +kernel
theorem dX4_about_19 : decode cX4_about 19 = .ok (.getfield 13, 3) := by decide +kernel
theorem dX4_about_22 : decode cX4_about 22 = .ok (.iload_n 3, 1) := by decide +kernel
theorem dX4_about_23 : decode cX4_about 23 = .ok (.iaload, 1) := by decide +kernel
theorem dX4_about_24 : decode cX4_about 24 = .ok (.iconst 3, 1) := by decide +kernel
theorem dX4_about_25 : decode cX4_about 25 = .ok (.if_icmp .ne 7, 3) := by decide +kernel
theorem dX4_about_28 : decode cX4_about 28 = .ok (.iconst 1, 1) := by decide +kernel
theorem dX4_about_29 : decode cX4_about 29 = .ok (.goto 4, 3) := by decide +kernel
theorem dX4_about_32 : decode cX4_about 32 = .ok (.iconst 0, 1) := by decide +kernel
theorem dX4_about_33 : decode cX4_about 33 = .ok (.iadd, 1) := by decide +kernel
theorem dX4_about_34 : decode cX4_about 34 = .ok (.istore_n 2, 1) := by decide +kernel
theorem dX4_about_35 : decode cX4_about 35 = .ok (.iinc 3 1, 3) := by decide +kernel
theorem dX4_about_38 : decode cX4_about 38 = .ok (.goto (-29), 3) := by decide +kernel
theorem dX4_about_41 : decode cX4_about 41 = .ok (.iload_n 1, 1) := by decide +kernel
theorem dX4_about_42 : decode cX4_about 42 = .ok (.ifCond .ne 10, 3) := by decide +kernel
theorem dX4_about_45 : decode cX4_about 45 = .ok (.aload_n 0, 1) := by decide +kernel
theorem dX4_about_46 : decode cX4_about 46 = .ok (.getfield 73, 3) := by decide +kernel
theorem dX4_about_49 : decode cX4_about 49 = .ok (.goto 25, 3) := by decide +kernel
theorem dX4_about_52 : decode cX4_about 52 = .ok (.iload_n 1, 1) := by decide +kernel
theorem dX4_about_53 : decode cX4_about 53 = .ok (.iconst 1, 1) := by decide +kernel
theorem dX4_about_54 : decode cX4_about 54 = .ok (.if_icmp .ne 7, 3) := by decide +kernel
theorem dX4_about_57 : decode cX4_about 57 = .ok (.iload_n 2, 1) := by decide +kernel
theorem dX4_about_58 : decode cX4_about 58 = .ok (.goto 16, 3) := by decide +kernel
theorem dX4_about_61 : decode cX4_about 61 = .ok (.iload_n 1, 1) := by decide +kernel
theorem dX4_about_62 : decode cX4_about 62 = .ok (.iconst 2, 1) := by decide +kernel
theorem dX4_about_63 : decode cX4_about 63 = .ok (.if_icmp .ne 10, 3) := by decide +kernel
theorem dX4_about_66 : decode cX4_about 66 = .ok (.aload_n 0, 1) := by decide +kernel
theorem dX4_about_67 : decode cX4_about 67 = .ok (.getfield 93, 3) := by decide +kernel
theorem dX4_about_70 : decode cX4_about 70 = .ok (.goto 4, 3) := by decide +kernel
theorem dX4_about_73 : decode cX4_about 73 = .ok (.iconst (-1), 1) := by decide +kernel
theorem dX4_about_74 : decode cX4_about 74 = .ok (.ireturn, 1) := by decide +kernel
theorem dX4_word_0 : decode cX4_word 0 = .ok (.iload_n 1, 1) := by decide +kernel
theorem dX4_word_1 : decode cX4_word 1 = .ok (.ifCond .lt 11, 3) := by decide +kernel
theorem dX4_word_4 : decode cX4_word 4 = .ok (.iload_n 1, 1) := by decide +kernel
theorem dX4_word_5 : decode cX4_word 5 = .ok (.aload_n 0, 1) := by decide +kernel
theorem dX4_word_6 : decode cX4_word 6 = .ok (.getfield 73, 3) := by decide +kernel
theorem dX4_word_9 : decode cX4_word 9 = .ok (.if_icmp .lt 7, 3) := by decide +kernel
theorem dX4_word_12 : decode cX4_word 12 = .ok (.iconst 1, 1) := by decide +kernel
theorem dX4_word_13 : decode cX4_word 13 = .ok (.goto 4, 3) := by decide +kernel
theorem dX4_word_16 : decode cX4_word 16 = .ok (.iconst 0, 1) := by decide +kernel
theorem dX4_word_17 : decode cX4_word 17 = .ok (.istore_n 3, 1) := by decide +kernel
theorem dX4_word_18 : decode cX4_word 18 = .ok (.aload_n 0, 1) := by decide +kernel
theorem dX4_word_19 : decode cX4_word 19 = .ok (.iload_n 3, 1) := by decide +kernel
theorem dX4_word_20 : decode cX4_word 20 = .ok (.iload_n 2, 1) := by decide +kernel
theorem dX4_word_21 : decode cX4_word 21 = .ok (.ifCond .lt 8, 3) := by decide +kernel
theorem dX4_word_24 : decode cX4_word 24 = .ok (.iload_n 2, 1) := by decide +kernel
theorem dX4_word_25 : decode cX4_word 25 = .ok (.iconst 2, 1) := by decide +kernel
theorem dX4_word_26 : decode cX4_word 26 = .ok (.if_icmp .le 7, 3) := by decide +kernel
theorem dX4_word_29 : decode cX4_word 29 = .ok (.iconst 1, 1) := by decide +kernel
theorem dX4_word_30 : decode cX4_word 30 = .ok (.goto 4, 3) := by decide +kernel
theorem dX4_word_33 : decode cX4_word 33 = .ok (.iconst 0, 1) := by decide +kernel
theorem dX4_word_34 : decode cX4_word 34 = .ok (.invokevirtual 110, 3) := by decide +kernel
theorem dX4_word_37 : decode cX4_word 37 = .ok (.ifCond .eq 5, 3) := by decide +kernel
theorem dX4_word_40 : decode cX4_word 40 = .ok (.lconst 0, 1) := by decide +kernel
theorem dX4_word_41 : decode cX4_word 41 = .ok (.lreturn, 1) := by decide +kernel
theorem dX4_word_42 : decode cX4_word 42 = .ok (.iload_n 2, 1) := by decide +kernel
theorem dX4_word_43 : decode cX4_word 43 = .ok (.ifCond .ne 13, 3) := by decide +kernel
theorem dX4_word_46 : decode cX4_word 46 = .ok (.aload_n 0, 1) := by decide +kernel
theorem dX4_word_47 : decode cX4_word 47 = .ok (.getfield 7, 3) := by decide +kernel
theorem dX4_word_50 : decode cX4_word 50 = .ok (.iload_n 1, 1) := by decide +kernel
theorem dX4_word_51 : decode cX4_word 51 = .ok (.iaload, 1) := by decide +kernel
theorem dX4_word_52 : decode cX4_word 52 = .ok (.i2l, 1) := by decide +kernel
theorem dX4_word_53 : decode cX4_word 53 = .ok (.goto 37, 3) := by decide +kernel
theorem dX4_word_56 : decode cX4_word 56 = .ok (.iload_n 2, 1) := by decide +kernel
theorem dX4_word_57 : decode cX4_word 57 = .ok (.iconst 1, 1) := by decide +kernel
theorem dX4_word_58 : decode cX4_word 58 = .ok (.if_icmp .ne 13, 3) := by decide +kernel
theorem dX4_word_61 : decode cX4_word 61 = .ok (.aload_n 0, 1) := by decide +kernel
theorem dX4_word_62 : decode cX4_word 62 = .ok (.getfield 13, 3) := by decide +kernel
theorem dX4_word_65 : decode cX4_word 65 = .ok (.iload_n 1, 1) := by decide +kernel
theorem dX4_word_66 : decode cX4_word 66 = .ok (.iaload, 1) := by decide +kernel
theorem dX4_word_67 : decode cX4_word 67 = .ok (.i2l, 1) := by decide +kernel
theorem dX4_word_68 : decode cX4_word 68 = .ok (.goto 22, 3) := by decide +kernel
theorem dX4_word_71 : decode cX4_word 71 = .ok (.aload_n 0, 1) := by decide +kernel
theorem dX4_word_72 : decode cX4_word 72 = .ok (.getfield 13, 3) := by decide +kernel
theorem dX4_word_75 : decode cX4_word 75 = .ok (.iload_n 1, 1) := by decide +kernel
theorem dX4_word_76 : decode cX4_word 76 = .ok (.iaload, 1) := by decide +kernel
theorem dX4_word_77 : decode cX4_word 77 = .ok (.ifCond .ne 7, 3) := by decide +kernel
theorem dX4_word_80 : decode cX4_word 80 = .ok (.lconst 0, 1) := by decide +kernel
theorem dX4_word_81 : decode cX4_word 81 = .ok (.goto 9, 3) := by decide +kernel
theorem dX4_word_84 : decode cX4_word 84 = .ok (.aload_n 0, 1) := by decide +kernel
theorem dX4_word_85 : decode cX4_word 85 = .ok (.getfield 16, 3) := by decide +kernel
theorem dX4_word_88 : decode cX4_word 88 = .ok (.iload_n 1, 1) := by decide +kernel
theorem dX4_word_89 : decode cX4_word 89 = .ok (.laload, 1) := by decide +kernel
theorem dX4_word_90 : decode cX4_word 90 = .ok (.lreturn, 1) := by decide +kernel
theorem dL_number_0 : decode cL_number 0 = .ok (.aload_n 0, 1) := by decide +kernel
theorem dL_number_1 : decode cL_number 1 = .ok (.iload_n 1, 1) := by decide +kernel
theorem dL_number_2 : decode cL_number 2 = .ok (.lload_n 2, 1) := by decide +kernel
theorem dL_number_3 : decode cL_number 3 = .ok (.invokevirtual 7, 3) := by decide +kernel
theorem dL_number_6 : decode cL_number 6 = .ok (.goto 11, 3) := by decide +kernel
theorem dL_number_9 : decode cL_number 9 = .ok (.astore 4, 2) := by decide +kernel
theorem dL_number_11 : decode cL_number 11 = .ok (.iconst 1, 1) := by decide +kernel
theorem dL_number_12 : decode cL_number 12 = .ok (.ireturn, 1) := by decide +kernel
theorem dL_number_13 : decode cL_number 13 = .ok (.astore 4, 2) := by decide +kernel
theorem dL_number_15 : decode cL_number 15 = .ok (.iconst 2, 1) := by decide +kernel
theorem dL_number_16 : decode cL_number 16 = .ok (.ireturn, 1) := by decide +kernel
theorem dL_number_17 : decode cL_number 17 = .ok (.iconst 0, 1) := by decide +kernel
theorem dL_number_18 : decode cL_number 18 = .ok (.ireturn, 1) := by decide +kernel
theorem dL_drop_0 : decode cL_drop 0 = .ok (.aload_n 0, 1) := by decide +kernel
theorem dL_drop_1 : decode cL_drop 1 = .ok (.iload_n 1, 1) := by decide +kernel
theorem dL_drop_2 : decode cL_drop 2 = .ok (.invokevirtual 17, 3) := by decide +kernel
theorem dL_drop_5 : decode cL_drop 5 = .ok (.goto 6, 3) := by decide +kernel
theorem dL_drop_8 : decode cL_drop 8 = .ok (.astore_n 2, 1) := by decide +kernel
theorem dL_drop_9 : decode cL_drop 9 = .ok (.iconst 1, 1) := by decide +kernel
theorem dL_drop_10 : decode cL_drop 10 = .ok (.ireturn, 1) := by decide +kernel
theorem dL_drop_11 : decode cL_drop 11 = .ok (.iconst 0, 1) := by decide +kernel
theorem dL_drop_12 : decode cL_drop 12 = .ok (.ireturn, 1) := by decide +kernel
theorem dL_copy_0 : decode cL_copy 0 = .ok (.aload_n 0, 1) := by decide +kernel
theorem dL_copy_1 : decode cL_copy 1 = .ok (.iload_n 1, 1) := by decide +kernel
theorem dL_copy_2 : decode cL_copy 2 = .ok (.iload_n 2, 1) := by decide +kernel
theorem dL_copy_3 : decode cL_copy 3 = .ok (.invokevirtual 21, 3) := by decide +kernel
theorem dL_copy_6 : decode cL_copy 6 = .ok (.goto 6, 3) := by decide +kernel
theorem dL_copy_9 : decode cL_copy 9 = .ok (.astore_n 3, 1) := by decide +kernel
theorem dL_copy_10 : decode cL_copy 10 = .ok (.iconst 1, 1) := by decide +kernel
theorem dL_copy_11 : decode cL_copy 11 = .ok (.ireturn, 1) := by decide +kernel
theorem dL_copy_12 : decode cL_copy 12 = .ok (.iconst 0, 1) := by decide +kernel
theorem dL_copy_13 : decode cL_copy 13 = .ok (.ireturn, 1) := by decide +kernel
theorem dL_cons_0 : decode cL_cons 0 = .ok (.aload_n 0, 1) := by decide +kernel
theorem dL_cons_1 : decode cL_cons 1 = .ok (.iload_n 1, 1) := by decide +kernel
theorem dL_cons_2 : decode cL_cons 2 = .ok (.iload_n 2, 1) := by decide +kernel
theorem dL_cons_3 : decode cL_cons 3 = .ok (.iload_n 3, 1) := by decide +kernel
theorem dL_cons_4 : decode cL_cons 4 = .ok (.invokevirtual 25, 3) := by decide +kernel
theorem dL_cons_7 : decode cL_cons 7 = .ok (.goto 11, 3) := by decide +kernel
theorem dL_cons_10 : decode cL_cons 10 = .ok (.astore 4, 2) := by decide +kernel
theorem dL_cons_12 : decode cL_cons 12 = .ok (.iconst 1, 1) := by decide +kernel
theorem dL_cons_13 : decode cL_cons 13 = .ok (.ireturn, 1) := by decide +kernel
theorem dL_cons_14 : decode cL_cons 14 = .ok (.astore 4, 2) := by decide +kernel
theorem dL_cons_16 : decode cL_cons 16 = .ok (.iconst 2, 1) := by decide +kernel
theorem dL_cons_17 : decode cL_cons 17 = .ok (.ireturn, 1) := by decide +kernel
theorem dL_cons_18 : decode cL_cons 18 = .ok (.iconst 0, 1) := by decide +kernel
theorem dL_cons_19 : decode cL_cons 19 = .ok (.ireturn, 1) := by decide +kernel
theorem dL_list_0 : decode cL_list 0 = .ok (.aload_n 0, 1) := by decide +kernel
theorem dL_list_1 : decode cL_list 1 = .ok (.iload_n 1, 1) := by decide +kernel
theorem dL_list_2 : decode cL_list 2 = .ok (.iload_n 2, 1) := by decide +kernel
theorem dL_list_3 : decode cL_list 3 = .ok (.iload_n 3, 1) := by decide +kernel
theorem dL_list_4 : decode cL_list 4 = .ok (.invokevirtual 31, 3) := by decide +kernel
theorem dL_list_7 : decode cL_list 7 = .ok (.goto 15, 3) := by decide +kernel
theorem dL_list_10 : decode cL_list 10 = .ok (.astore 4, 2) := by decide +kernel
theorem dL_list_12 : decode cL_list 12 = .ok (.iconst 1, 1) := by decide +kernel
theorem dL_list_13 : decode cL_list 13 = .ok (.ireturn, 1) := by decide +kernel
theorem dL_list_14 : decode cL_list 14 = .ok (.astore 4, 2) := by decide +kernel
theorem dL_list_16 : decode cL_list 16 = .ok (.iconst 2, 1) := by decide +kernel
theorem dL_list_17 : decode cL_list 17 = .ok (.ireturn, 1) := by decide +kernel
theorem dL_list_18 : decode cL_list 18 = .ok (.astore 4, 2) := by decide +kernel
theorem dL_list_20 : decode cL_list 20 = .ok (.iconst 3, 1) := by decide +kernel
theorem dL_list_21 : decode cL_list 21 = .ok (.ireturn, 1) := by decide +kernel
theorem dL_list_22 : decode cL_list 22 = .ok (.iconst 0, 1) := by decide +kernel
theorem dL_list_23 : decode cL_list 23 = .ok (.ireturn, 1) := by decide +kernel
theorem dL_first_0 : decode cL_first 0 = .ok (.aload_n 0, 1) := by decide +kernel
theorem dL_first_1 : decode cL_first 1 = .ok (.iload_n 1, 1) := by decide +kernel
theorem dL_first_2 : decode cL_first 2 = .ok (.iload_n 2, 1) := by decide +kernel
theorem dL_first_3 : decode cL_first 3 = .ok (.invokevirtual 34, 3) := by decide +kernel
theorem dL_first_6 : decode cL_first 6 = .ok (.goto 9, 3) := by decide +kernel
theorem dL_first_9 : decode cL_first 9 = .ok (.astore_n 3, 1) := by decide +kernel
theorem dL_first_10 : decode cL_first 10 = .ok (.iconst 1, 1) := by decide +kernel
theorem dL_first_11 : decode cL_first 11 = .ok (.ireturn, 1) := by decide +kernel
theorem dL_first_12 : decode cL_first 12 = .ok (.astore_n 3, 1) := by decide +kernel
theorem dL_first_13 : decode cL_first 13 = .ok (.iconst 2, 1) := by decide +kernel
theorem dL_first_14 : decode cL_first 14 = .ok (.ireturn, 1) := by decide +kernel
theorem dL_first_15 : decode cL_first 15 = .ok (.iconst 0, 1) := by decide +kernel
theorem dL_first_16 : decode cL_first 16 = .ok (.ireturn, 1) := by decide +kernel
theorem dL_rest_0 : decode cL_rest 0 = .ok (.aload_n 0, 1) := by decide +kernel
theorem dL_rest_1 : decode cL_rest 1 = .ok (.iload_n 1, 1) := by decide +kernel
theorem dL_rest_2 : decode cL_rest 2 = .ok (.iload_n 2, 1) := by decide +kernel
theorem dL_rest_3 : decode cL_rest 3 = .ok (.invokevirtual 39, 3) := by decide +kernel
theorem dL_rest_6 : decode cL_rest 6 = .ok (.goto 9, 3) := by decide +kernel
theorem dL_rest_9 : decode cL_rest 9 = .ok (.astore_n 3, 1) := by decide +kernel
theorem dL_rest_10 : decode cL_rest 10 = .ok (.iconst 1, 1) := by decide +kernel
theorem dL_rest_11 : decode cL_rest 11 = .ok (.ireturn, 1) := by decide +kernel
theorem dL_rest_12 : decode cL_rest 12 = .ok (.astore_n 3, 1) := by decide +kernel
theorem dL_rest_13 : decode cL_rest 13 = .ok (.iconst 2, 1) := by decide +kernel
theorem dL_rest_14 : decode cL_rest 14 = .ok (.ireturn, 1) := by decide +kernel
theorem dL_rest_15 : decode cL_rest 15 = .ok (.iconst 0, 1) := by decide +kernel
theorem dL_rest_16 : decode cL_rest 16 = .ok (.ireturn, 1) := by decide +kernel
theorem dL_setFirst_0 : decode cL_setFirst 0 = .ok (.aload_n 0, 1) := by decide +kernel
theorem dL_setFirst_1 : decode cL_setFirst 1 = .ok (.iload_n 1, 1) := by decide +kernel
theorem dL_setFirst_2 : decode cL_setFirst 2 = .ok (.iload_n 2, 1) := by decide +kernel
theorem dL_setFirst_3 : decode cL_setFirst 3 = .ok (.invokevirtual 42, 3) := by decide +kernel
theorem dL_setFirst_6 : decode cL_setFirst 6 = .ok (.goto 9, 3) := by decide +kernel
theorem dL_setFirst_9 : decode cL_setFirst 9 = .ok (.astore_n 3, 1) := by decide +kernel
theorem dL_setFirst_10 : decode cL_setFirst 10 = .ok (.iconst 1, 1) := by decide +kernel
theorem dL_setFirst_11 : decode cL_setFirst 11 = .ok (.ireturn, 1) := by decide +kernel
theorem dL_setFirst_12 : decode cL_setFirst 12 = .ok (.astore_n 3, 1) := by decide +kernel
theorem dL_setFirst_13 : decode cL_setFirst 13 = .ok (.iconst 2, 1) := by decide +kernel
theorem dL_setFirst_14 : decode cL_setFirst 14 = .ok (.ireturn, 1) := by decide +kernel
theorem dL_setFirst_15 : decode cL_setFirst 15 = .ok (.iconst 0, 1) := by decide +kernel
theorem dL_setFirst_16 : decode cL_setFirst 16 = .ok (.ireturn, 1) := by decide +kernel
theorem dL_setRest_0 : decode cL_setRest 0 = .ok (.aload_n 0, 1) := by decide +kernel
theorem dL_setRest_1 : decode cL_setRest 1 = .ok (.iload_n 1, 1) := by decide +kernel
theorem dL_setRest_2 : decode cL_setRest 2 = .ok (.iload_n 2, 1) := by decide +kernel
theorem dL_setRest_3 : decode cL_setRest 3 = .ok (.invokevirtual 45, 3) := by decide +kernel
theorem dL_setRest_6 : decode cL_setRest 6 = .ok (.goto 12, 3) := by decide +kernel
theorem dL_setRest_9 : decode cL_setRest 9 = .ok (.astore_n 3, 1) := by decide +kernel
theorem dL_setRest_10 : decode cL_setRest 10 = .ok (.iconst 1, 1) := by decide +kernel
theorem dL_setRest_11 : decode cL_setRest 11 = .ok (.ireturn, 1) := by decide +kernel
theorem dL_setRest_12 : decode cL_setRest 12 = .ok (.astore_n 3, 1) := by decide +kernel
theorem dL_setRest_13 : decode cL_setRest 13 = .ok (.iconst 2, 1) := by decide +kernel
theorem dL_setRest_14 : decode cL_setRest 14 = .ok (.ireturn, 1) := by decide +kernel
theorem dL_setRest_15 : decode cL_setRest 15 = .ok (.astore_n 3, 1) := by decide +kernel
theorem dL_setRest_16 : decode cL_setRest 16 = .ok (.iconst 3, 1) := by decide +kernel
theorem dL_setRest_17 : decode cL_setRest 17 = .ok (.ireturn, 1) := by decide +kernel
theorem dL_setRest_18 : decode cL_setRest 18 = .ok (.iconst 0, 1) := by decide +kernel
theorem dL_setRest_19 : decode cL_setRest 19 = .ok (.ireturn, 1) := by decide +kernel
theorem dL_append_0 : decode cL_append 0 = .ok (.aload_n 0, 1) := by decide +kernel
theorem dL_append_1 : decode cL_append 1 = .ok (.iload_n 1, 1) := by decide +kernel
theorem dL_append_2 : decode cL_append 2 = .ok (.iload_n 2, 1) := by decide +kernel
theorem dL_append_3 : decode cL_append 3 = .ok (.iload_n 3, 1) := by decide +kernel
theorem dL_append_4 : decode cL_append 4 = .ok (.invokevirtual 48, 3) := by decide +kernel
theorem dL_append_7 : decode cL_append 7 = .ok (.goto 15, 3) := by decide +kernel
theorem dL_append_10 : decode cL_append 10 = .ok (.astore 4, 2) := by decide +kernel
theorem dL_append_12 : decode cL_append 12 = .ok (.iconst 1, 1) := by decide +kernel
theorem dL_append_13 : decode cL_append 13 = .ok (.ireturn, 1) := by decide +kernel
theorem dL_append_14 : decode cL_append 14 = .ok (.astore 4, 2) := by decide +kernel
theorem dL_append_16 : decode cL_append 16 = .ok (.iconst 2, 1) := by decide +kernel
theorem dL_append_17 : decode cL_append 17 = .ok (.ireturn, 1) := by decide +kernel
theorem dL_append_18 : decode cL_append 18 = .ok (.astore 4, 2) := by decide +kernel
theorem dL_append_20 : decode cL_append 20 = .ok (.iconst 3, 1) := by decide +kernel
theorem dL_append_21 : decode cL_append 21 = .ok (.ireturn, 1) := by decide +kernel
theorem dL_append_22 : decode cL_append 22 = .ok (.iconst 0, 1) := by decide +kernel
theorem dL_append_23 : decode cL_append 23 = .ok (.ireturn, 1) := by decide +kernel
theorem dL_kind_0 : decode cL_kind 0 = .ok (.aload_n 2, 1) := by decide +kernel
theorem dL_kind_1 : decode cL_kind 1 = .ok (.iconst 0, 1) := by decide +kernel
theorem dL_kind_2 : decode cL_kind 2 = .ok (.aload_n 0, 1) := by decide +kernel
theorem dL_kind_3 : decode cL_kind 3 = .ok (.iload_n 1, 1) := by decide +kernel
theorem dL_kind_4 : decode cL_kind 4 = .ok (.invokevirtual 51, 3) := by decide +kernel
theorem dL_kind_7 : decode cL_kind 7 = .ok (.i2l, 1) := by decide +kernel
theorem dL_kind_8 : decode cL_kind 8 = .ok (.lastore, 1) := by decide +kernel
theorem dL_kind_9 : decode cL_kind 9 = .ok (.goto 6, 3) := by decide +kernel
theorem dL_kind_12 : decode cL_kind 12 = .ok (.astore_n 3, 1) := by decide +kernel
theorem dL_kind_13 : decode cL_kind 13 = .ok (.iconst 1, 1) := by decide +kernel
theorem dL_kind_14 : decode cL_kind 14 = .ok (.ireturn, 1) := by decide +kernel
theorem dL_kind_15 : decode cL_kind 15 = .ok (.iconst 0, 1) := by decide +kernel
theorem dL_kind_16 : decode cL_kind 16 = .ok (.ireturn, 1) := by decide +kernel
theorem dL_value_0 : decode cL_value 0 = .ok (.aload_n 2, 1) := by decide +kernel
theorem dL_value_1 : decode cL_value 1 = .ok (.iconst 0, 1) := by decide +kernel
theorem dL_value_2 : decode cL_value 2 = .ok (.aload_n 0, 1) := by decide +kernel
theorem dL_value_3 : decode cL_value 3 = .ok (.iload_n 1, 1) := by decide +kernel
theorem dL_value_4 : decode cL_value 4 = .ok (.invokevirtual 55, 3) := by decide +kernel
theorem dL_value_7 : decode cL_value 7 = .ok (.lastore, 1) := by decide +kernel
theorem dL_value_8 : decode cL_value 8 = .ok (.goto 9, 3) := by decide +kernel
theorem dL_value_11 : decode cL_value 11 = .ok (.astore_n 3, 1) := by decide +kernel
theorem dL_value_12 : decode cL_value 12 = .ok (.iconst 1, 1) := by decide +kernel
theorem dL_value_13 : decode cL_value 13 = .ok (.ireturn, 1) := by decide +kernel
theorem dL_value_14 : decode cL_value 14 = .ok (.astore_n 3, 1) := by decide +kernel
theorem dL_value_15 : decode cL_value 15 = .ok (.iconst 2, 1) := by decide +kernel
theorem dL_value_16 : decode cL_value 16 = .ok (.ireturn, 1) := by decide +kernel
theorem dL_value_17 : decode cL_value 17 = .ok (.iconst 0, 1) := by decide +kernel
theorem dL_value_18 : decode cL_value 18 = .ok (.ireturn, 1) := by decide +kernel
theorem dL_same_0 : decode cL_same 0 = .ok (.aload_n 3, 1) := by decide +kernel
theorem dL_same_1 : decode cL_same 1 = .ok (.iconst 0, 1) := by decide +kernel
theorem dL_same_2 : decode cL_same 2 = .ok (.aload_n 0, 1) := by decide +kernel
theorem dL_same_3 : decode cL_same 3 = .ok (.iload_n 1, 1) := by decide +kernel
theorem dL_same_4 : decode cL_same 4 = .ok (.iload_n 2, 1) := by decide +kernel
theorem dL_same_5 : decode cL_same 5 = .ok (.invokevirtual 59, 3) := by decide +kernel
theorem dL_same_8 : decode cL_same 8 = .ok (.ifCond .eq 7, 3) := by decide +kernel
theorem dL_same_11 : decode cL_same 11 = .ok (.lconst 1, 1) := by decide +kernel
theorem dL_same_12 : decode cL_same 12 = .ok (.goto 4, 3) := by decide +kernel
theorem dL_same_15 : decode cL_same 15 = .ok (.lconst 0, 1) := by decide +kernel
theorem dL_same_16 : decode cL_same 16 = .ok (.lastore, 1) := by decide +kernel
theorem dL_same_17 : decode cL_same 17 = .ok (.goto 7, 3) := by decide +kernel
theorem dL_same_20 : decode cL_same 20 = .ok (.astore 4, 2) := by decide +kernel
theorem dL_same_22 : decode cL_same 22 = .ok (.iconst 1, 1) := by decide +kernel
theorem dL_same_23 : decode cL_same 23 = .ok (.ireturn, 1) := by decide +kernel
theorem dL_same_24 : decode cL_same 24 = .ok (.iconst 0, 1) := by decide +kernel
theorem dL_same_25 : decode cL_same 25 = .ok (.ireturn, 1) := by decide +kernel
theorem dL_length_0 : decode cL_length 0 = .ok (.aload_n 2, 1) := by decide +kernel
theorem dL_length_1 : decode cL_length 1 = .ok (.iconst 0, 1) := by decide +kernel
theorem dL_length_2 : decode cL_length 2 = .ok (.aload_n 0, 1) := by decide +kernel
theorem dL_length_3 : decode cL_length 3 = .ok (.iload_n 1, 1) := by decide +kernel
theorem dL_length_4 : decode cL_length 4 = .ok (.invokevirtual 63, 3) := by decide +kernel
theorem dL_length_7 : decode cL_length 7 = .ok (.i2l, 1) := by decide +kernel
theorem dL_length_8 : decode cL_length 8 = .ok (.lastore, 1) := by decide +kernel
theorem dL_length_9 : decode cL_length 9 = .ok (.goto 6, 3) := by decide +kernel
theorem dL_length_12 : decode cL_length 12 = .ok (.astore_n 3, 1) := by decide +kernel
theorem dL_length_13 : decode cL_length 13 = .ok (.iconst 1, 1) := by decide +kernel
theorem dL_length_14 : decode cL_length 14 = .ok (.ireturn, 1) := by decide +kernel
theorem dL_length_15 : decode cL_length 15 = .ok (.iconst 0, 1) := by decide +kernel
theorem dL_length_16 : decode cL_length 16 = .ok (.ireturn, 1) := by decide +kernel
theorem dL_words_0 : decode cL_words 0 = .ok (.aload_n 2, 1) := by decide +kernel
theorem dL_words_1 : decode cL_words 1 = .ok (.iconst 0, 1) := by decide +kernel
theorem dL_words_2 : decode cL_words 2 = .ok (.aload_n 0, 1) := by decide +kernel
theorem dL_words_3 : decode cL_words 3 = .ok (.iload_n 1, 1) := by decide +kernel
theorem dL_words_4 : decode cL_words 4 = .ok (.invokevirtual 66, 3) := by decide +kernel
theorem dL_words_7 : decode cL_words 7 = .ok (.i2l, 1) := by decide +kernel
theorem dL_words_8 : decode cL_words 8 = .ok (.lastore, 1) := by decide +kernel
theorem dL_words_9 : decode cL_words 9 = .ok (.goto 6, 3) := by decide +kernel
theorem dL_words_12 : decode cL_words 12 = .ok (.astore_n 3, 1) := by decide +kernel
theorem dL_words_13 : decode cL_words 13 = .ok (.iconst 1, 1) := by decide +kernel
theorem dL_words_14 : decode cL_words 14 = .ok (.ireturn, 1) := by decide +kernel
theorem dL_words_15 : decode cL_words 15 = .ok (.iconst 0, 1) := by decide +kernel
theorem dL_words_16 : decode cL_words 16 = .ok (.ireturn, 1) := by decide +kernel
theorem dL_alike_0 : decode cL_alike 0 = .ok (.aload_n 3, 1) := by decide +kernel
theorem dL_alike_1 : decode cL_alike 1 = .ok (.iconst 0, 1) := by decide +kernel
theorem dL_alike_2 : decode cL_alike 2 = .ok (.aload_n 0, 1) := by decide +kernel
theorem dL_alike_3 : decode cL_alike 3 = .ok (.iload_n 1, 1) := by decide +kernel
theorem dL_alike_4 : decode cL_alike 4 = .ok (.iload_n 2, 1) := by decide +kernel
theorem dL_alike_5 : decode cL_alike 5 = .ok (.invokevirtual 69, 3) := by decide +kernel
theorem dL_alike_8 : decode cL_alike 8 = .ok (.ifCond .eq 7, 3) := by decide +kernel
theorem dL_alike_11 : decode cL_alike 11 = .ok (.lconst 1, 1) := by decide +kernel
theorem dL_alike_12 : decode cL_alike 12 = .ok (.goto 4, 3) := by decide +kernel
theorem dL_alike_15 : decode cL_alike 15 = .ok (.lconst 0, 1) := by decide +kernel
theorem dL_alike_16 : decode cL_alike 16 = .ok (.lastore, 1) := by decide +kernel
theorem dL_alike_17 : decode cL_alike 17 = .ok (.goto 7, 3) := by decide +kernel
theorem dL_alike_20 : decode cL_alike 20 = .ok (.astore 4, 2) := by decide +kernel
theorem dL_alike_22 : decode cL_alike 22 = .ok (.iconst 1, 1) := by decide +kernel
theorem dL_alike_23 : decode cL_alike 23 = .ok (.ireturn, 1) := by decide +kernel
theorem dL_alike_24 : decode cL_alike 24 = .ok (.iconst 0, 1) := by decide +kernel
theorem dL_alike_25 : decode cL_alike 25 = .ok (.ireturn, 1) := by decide +kernel
theorem dL_word_0 : decode cL_word 0 = .ok (.aload_n 3, 1) := by decide +kernel
theorem dL_word_1 : decode cL_word 1 = .ok (.iconst 0, 1) := by decide +kernel
theorem dL_word_2 : decode cL_word 2 = .ok (.aload_n 0, 1) := by decide +kernel
theorem dL_word_3 : decode cL_word 3 = .ok (.iload_n 1, 1) := by decide +kernel
theorem dL_word_4 : decode cL_word 4 = .ok (.iload_n 2, 1) := by decide +kernel
theorem dL_word_5 : decode cL_word 5 = .ok (.invokevirtual 72, 3) := by decide +kernel
theorem dL_word_8 : decode cL_word 8 = .ok (.lastore, 1) := by decide +kernel
theorem dL_word_9 : decode cL_word 9 = .ok (.goto 11, 3) := by decide +kernel
theorem dL_word_12 : decode cL_word 12 = .ok (.astore 4, 2) := by decide +kernel
theorem dL_word_14 : decode cL_word 14 = .ok (.iconst 1, 1) := by decide +kernel
theorem dL_word_15 : decode cL_word 15 = .ok (.ireturn, 1) := by decide +kernel
theorem dL_word_16 : decode cL_word 16 = .ok (.astore 4, 2) := by decide +kernel
theorem dL_word_18 : decode cL_word 18 = .ok (.iconst 2, 1) := by decide +kernel
theorem dL_word_19 : decode cL_word 19 = .ok (.ireturn, 1) := by decide +kernel
theorem dL_word_20 : decode cL_word 20 = .ok (.iconst 0, 1) := by decide +kernel
theorem dL_word_21 : decode cL_word 21 = .ok (.ireturn, 1) := by decide +kernel
theorem dJ_fill_0 : decode cJ_fill 0 = .ok (.iconst 0, 1) := by decide +kernel
theorem dJ_fill_1 : decode cJ_fill 1 = .ok (.istore_n 2, 1) := by decide +kernel
theorem dJ_fill_2 : decode cJ_fill 2 = .ok (.aload_n 0, 1) := by decide +kernel
theorem dJ_fill_3 : decode cJ_fill 3 = .ok (.arraylength, 1) := by decide +kernel
theorem dJ_fill_4 : decode cJ_fill 4 = .ok (.istore_n 3, 1) := by decide +kernel
theorem dJ_fill_5 : decode cJ_fill 5 = .ok (.iload_n 2, 1) := by decide +kernel
theorem dJ_fill_6 : decode cJ_fill 6 = .ok (.iload_n 3, 1) := by decide +kernel
theorem dJ_fill_7 : decode cJ_fill 7 = .ok (.if_icmp .ge 13, 3) := by decide +kernel
theorem dJ_fill_10 : decode cJ_fill 10 = .ok (.aload_n 0, 1) := by decide +kernel
theorem dJ_fill_11 : decode cJ_fill 11 = .ok (.iload_n 2, 1) := by decide +kernel
theorem dJ_fill_12 : decode cJ_fill 12 = .ok (.iload_n 1, 1) := by decide +kernel
theorem dJ_fill_13 : decode cJ_fill 13 = .ok (.iastore, 1) := by decide +kernel
theorem dJ_fill_14 : decode cJ_fill 14 = .ok (.iinc 2 1, 3) := by decide +kernel
theorem dJ_fill_17 : decode cJ_fill 17 = .ok (.goto (-12), 3) := by decide +kernel
theorem dJ_fill_20 : decode cJ_fill 20 = .ok (.return_, 1) := by decide +kernel
end
section
theorem dL_law_0 : decode cL_law 0 = .ok (.new 8, 3) := by decide +kernel
theorem dL_law_3 : decode cL_law 3 = .ok (.dup, 1) := by decide +kernel
theorem dL_law_4 : decode cL_law 4 = .ok (.invokespecial 78, 3) := by decide +kernel
theorem dL_law_7 : decode cL_law 7 = .ok (.astore_n 1, 1) := by decide +kernel
theorem dL_law_8 : decode cL_law 8 = .ok (.new 79, 3) := by decide +kernel
theorem dL_law_11 : decode cL_law 11 = .ok (.dup, 1) := by decide +kernel
theorem dL_law_12 : decode cL_law 12 = .ok (.invokespecial 81, 3) := by decide +kernel
theorem dL_law_15 : decode cL_law 15 = .ok (.astore_n 2, 1) := by decide +kernel
theorem dL_law_16 : decode cL_law 16 = .ok (.iconst 1, 1) := by decide +kernel
theorem dL_law_17 : decode cL_law 17 = .ok (.newarray .long, 2) := by decide +kernel
theorem dL_law_19 : decode cL_law 19 = .ok (.astore_n 3, 1) := by decide +kernel
theorem dL_law_20 : decode cL_law 20 = .ok (.iconst 0, 1) := by decide +kernel
theorem dL_law_21 : decode cL_law 21 = .ok (.istore 4, 2) := by decide +kernel
theorem dL_law_23 : decode cL_law 23 = .ok (.iload 4, 2) := by decide +kernel
theorem dL_law_25 : decode cL_law 25 = .ok (.aload_n 0, 1) := by decide +kernel
theorem dL_law_26 : decode cL_law 26 = .ok (.arraylength, 1) := by decide +kernel
theorem dL_law_27 : decode cL_law 27 = .ok (.iconst 4, 1) := by decide +kernel
theorem dL_law_28 : decode cL_law 28 = .ok (.isub, 1) := by decide +kernel
theorem dL_law_29 : decode cL_law 29 = .ok (.if_icmp .gt 1119, 3) := by decide +kernel
theorem dL_law_32 : decode cL_law 32 = .ok (.aload_n 0, 1) := by decide +kernel
theorem dL_law_33 : decode cL_law 33 = .ok (.iload 4, 2) := by decide +kernel
theorem dL_law_35 : decode cL_law 35 = .ok (.iaload, 1) := by decide +kernel
theorem dL_law_36 : decode cL_law 36 = .ok (.bipush 31, 2) := by decide +kernel
theorem dL_law_38 : decode cL_law 38 = .ok (.iand, 1) := by decide +kernel
theorem dL_law_39 : decode cL_law 39 = .ok (.tableswitch 1103 0 18 #[89, 169, 205, 253, 313, 373, 421, 469, 517, 565, 625, 681, 736, 811, 867, 923, 998, 1011, 1036], 89) := by decide +kernel
theorem dL_law_128 : decode cL_law 128 = .ok (.aload_n 1, 1) := by decide +kernel
theorem dL_law_129 : decode cL_law 129 = .ok (.aload_n 0, 1) := by decide +kernel
theorem dL_law_130 : decode cL_law 130 = .ok (.iload 4, 2) := by decide +kernel
theorem dL_law_132 : decode cL_law 132 = .ok (.iconst 1, 1) := by decide +kernel
theorem dL_law_133 : decode cL_law 133 = .ok (.iadd, 1) := by decide +kernel
theorem dL_law_134 : decode cL_law 134 = .ok (.iaload, 1) := by decide +kernel
theorem dL_law_135 : decode cL_law 135 = .ok (.aload_n 0, 1) := by decide +kernel
theorem dL_law_136 : decode cL_law 136 = .ok (.iload 4, 2) := by decide +kernel
theorem dL_law_138 : decode cL_law 138 = .ok (.iconst 2, 1) := by decide +kernel
theorem dL_law_139 : decode cL_law 139 = .ok (.iadd, 1) := by decide +kernel
theorem dL_law_140 : decode cL_law 140 = .ok (.iaload, 1) := by decide +kernel
theorem dL_law_141 : decode cL_law 141 = .ok (.i2l, 1) := by decide +kernel
theorem dL_law_142 : decode cL_law 142 = .ok (.bipush 32, 2) := by decide +kernel
theorem dL_law_144 : decode cL_law 144 = .ok (.lshl, 1) := by decide +kernel
theorem dL_law_145 : decode cL_law 145 = .ok (.aload_n 0, 1) := by decide +kernel
theorem dL_law_146 : decode cL_law 146 = .ok (.iload 4, 2) := by decide +kernel
theorem dL_law_148 : decode cL_law 148 = .ok (.iconst 3, 1) := by decide +kernel
theorem dL_law_149 : decode cL_law 149 = .ok (.iadd, 1) := by decide +kernel
theorem dL_law_150 : decode cL_law 150 = .ok (.iaload, 1) := by decide +kernel
theorem dL_law_151 : decode cL_law 151 = .ok (.i2l, 1) := by decide +kernel
theorem dL_law_152 : decode cL_law 152 = .ok (.ldc2_w 82, 3) := by decide +kernel
theorem dL_law_155 : decode cL_law 155 = .ok (.land, 1) := by decide +kernel
theorem dL_law_156 : decode cL_law 156 = .ok (.lor, 1) := by decide +kernel
theorem dL_law_157 : decode cL_law 157 = .ok (.invokestatic 84, 3) := by decide +kernel
theorem dL_law_160 : decode cL_law 160 = .ok (.istore 5, 2) := by decide +kernel
theorem dL_law_162 : decode cL_law 162 = .ok (.aload_n 2, 1) := by decide +kernel
theorem dL_law_163 : decode cL_law 163 = .ok (.aload_n 0, 1) := by decide +kernel
theorem dL_law_164 : decode cL_law 164 = .ok (.iload 4, 2) := by decide +kernel
theorem dL_law_166 : decode cL_law 166 = .ok (.iconst 1, 1) := by decide +kernel
theorem dL_law_167 : decode cL_law 167 = .ok (.iadd, 1) := by decide +kernel
theorem dL_law_168 : decode cL_law 168 = .ok (.iaload, 1) := by decide +kernel
theorem dL_law_169 : decode cL_law 169 = .ok (.aload_n 0, 1) := by decide +kernel
theorem dL_law_170 : decode cL_law 170 = .ok (.iload 4, 2) := by decide +kernel
theorem dL_law_172 : decode cL_law 172 = .ok (.iconst 2, 1) := by decide +kernel
theorem dL_law_173 : decode cL_law 173 = .ok (.iadd, 1) := by decide +kernel
theorem dL_law_174 : decode cL_law 174 = .ok (.iaload, 1) := by decide +kernel
theorem dL_law_175 : decode cL_law 175 = .ok (.i2l, 1) := by decide +kernel
theorem dL_law_176 : decode cL_law 176 = .ok (.bipush 32, 2) := by decide +kernel
theorem dL_law_178 : decode cL_law 178 = .ok (.lshl, 1) := by decide +kernel
theorem dL_law_179 : decode cL_law 179 = .ok (.aload_n 0, 1) := by decide +kernel
theorem dL_law_180 : decode cL_law 180 = .ok (.iload 4, 2) := by decide +kernel
theorem dL_law_182 : decode cL_law 182 = .ok (.iconst 3, 1) := by decide +kernel
theorem dL_law_183 : decode cL_law 183 = .ok (.iadd, 1) := by decide +kernel
theorem dL_law_184 : decode cL_law 184 = .ok (.iaload, 1) := by decide +kernel
theorem dL_law_185 : decode cL_law 185 = .ok (.i2l, 1) := by decide +kernel
theorem dL_law_186 : decode cL_law 186 = .ok (.ldc2_w 82, 3) := by decide +kernel
theorem dL_law_189 : decode cL_law 189 = .ok (.land, 1) := by decide +kernel
theorem dL_law_190 : decode cL_law 190 = .ok (.lor, 1) := by decide +kernel
theorem dL_law_191 : decode cL_law 191 = .ok (.invokevirtual 89, 3) := by decide +kernel
theorem dL_law_194 : decode cL_law 194 = .ok (.aload_n 2, 1) := by decide +kernel
theorem dL_law_195 : decode cL_law 195 = .ok (.invokevirtual 90, 3) := by decide +kernel
theorem dL_law_198 : decode cL_law 198 = .ok (.iload 5, 2) := by decide +kernel
theorem dL_law_200 : decode cL_law 200 = .ok (.if_icmp .eq 5, 3) := by decide +kernel
theorem dL_law_203 : decode cL_law 203 = .ok (.iconst 0, 1) := by decide +kernel
theorem dL_law_204 : decode cL_law 204 = .ok (.ireturn, 1) := by decide +kernel
theorem dL_law_205 : decode cL_law 205 = .ok (.goto 937, 3) := by decide +kernel
theorem dL_law_208 : decode cL_law 208 = .ok (.aload_n 1, 1) := by decide +kernel
theorem dL_law_209 : decode cL_law 209 = .ok (.aload_n 0, 1) := by decide +kernel
theorem dL_law_210 : decode cL_law 210 = .ok (.iload 4, 2) := by decide +kernel
theorem dL_law_212 : decode cL_law 212 = .ok (.iconst 1, 1) := by decide +kernel
theorem dL_law_213 : decode cL_law 213 = .ok (.iadd, 1) := by decide +kernel
theorem dL_law_214 : decode cL_law 214 = .ok (.iaload, 1) := by decide +kernel
theorem dL_law_215 : decode cL_law 215 = .ok (.invokestatic 94, 3) := by decide +kernel
theorem dL_law_218 : decode cL_law 218 = .ok (.istore 5, 2) := by decide +kernel
theorem dL_law_220 : decode cL_law 220 = .ok (.aload_n 2, 1) := by decide +kernel
theorem dL_law_221 : decode cL_law 221 = .ok (.aload_n 0, 1) := by decide +kernel
theorem dL_law_222 : decode cL_law 222 = .ok (.iload 4, 2) := by decide +kernel
theorem dL_law_224 : decode cL_law 224 = .ok (.iconst 1, 1) := by decide +kernel
theorem dL_law_225 : decode cL_law 225 = .ok (.iadd, 1) := by decide +kernel
theorem dL_law_226 : decode cL_law 226 = .ok (.iaload, 1) := by decide +kernel
theorem dL_law_227 : decode cL_law 227 = .ok (.invokevirtual 97, 3) := by decide +kernel
theorem dL_law_230 : decode cL_law 230 = .ok (.aload_n 2, 1) := by decide +kernel
theorem dL_law_231 : decode cL_law 231 = .ok (.invokevirtual 90, 3) := by decide +kernel
theorem dL_law_234 : decode cL_law 234 = .ok (.iload 5, 2) := by decide +kernel
theorem dL_law_236 : decode cL_law 236 = .ok (.if_icmp .eq 5, 3) := by decide +kernel
theorem dL_law_239 : decode cL_law 239 = .ok (.iconst 0, 1) := by decide +kernel
theorem dL_law_240 : decode cL_law 240 = .ok (.ireturn, 1) := by decide +kernel
theorem dL_law_241 : decode cL_law 241 = .ok (.goto 901, 3) := by decide +kernel
theorem dL_law_244 : decode cL_law 244 = .ok (.aload_n 1, 1) := by decide +kernel
theorem dL_law_245 : decode cL_law 245 = .ok (.aload_n 0, 1) := by decide +kernel
theorem dL_law_246 : decode cL_law 246 = .ok (.iload 4, 2) := by decide +kernel
theorem dL_law_248 : decode cL_law 248 = .ok (.iconst 1, 1) := by decide +kernel
theorem dL_law_249 : decode cL_law 249 = .ok (.iadd, 1) := by decide +kernel
theorem dL_law_250 : decode cL_law 250 = .ok (.iaload, 1) := by decide +kernel
theorem dL_law_251 : decode cL_law 251 = .ok (.aload_n 0, 1) := by decide +kernel
theorem dL_law_252 : decode cL_law 252 = .ok (.iload 4, 2) := by decide +kernel
theorem dL_law_254 : decode cL_law 254 = .ok (.iconst 2, 1) := by decide +kernel
theorem dL_law_255 : decode cL_law 255 = .ok (.iadd, 1) := by decide +kernel
theorem dL_law_256 : decode cL_law 256 = .ok (.iaload, 1) := by decide +kernel
theorem dL_law_257 : decode cL_law 257 = .ok (.invokestatic 98, 3) := by decide +kernel
theorem dL_law_260 : decode cL_law 260 = .ok (.istore 5, 2) := by decide +kernel
theorem dL_law_262 : decode cL_law 262 = .ok (.aload_n 2, 1) := by decide +kernel
theorem dL_law_263 : decode cL_law 263 = .ok (.aload_n 0, 1) := by decide +kernel
theorem dL_law_264 : decode cL_law 264 = .ok (.iload 4, 2) := by decide +kernel
theorem dL_law_266 : decode cL_law 266 = .ok (.iconst 1, 1) := by decide +kernel
theorem dL_law_267 : decode cL_law 267 = .ok (.iadd, 1) := by decide +kernel
theorem dL_law_268 : decode cL_law 268 = .ok (.iaload, 1) := by decide +kernel
theorem dL_law_269 : decode cL_law 269 = .ok (.aload_n 0, 1) := by decide +kernel
theorem dL_law_270 : decode cL_law 270 = .ok (.iload 4, 2) := by decide +kernel
theorem dL_law_272 : decode cL_law 272 = .ok (.iconst 2, 1) := by decide +kernel
theorem dL_law_273 : decode cL_law 273 = .ok (.iadd, 1) := by decide +kernel
theorem dL_law_274 : decode cL_law 274 = .ok (.iaload, 1) := by decide +kernel
theorem dL_law_275 : decode cL_law 275 = .ok (.invokevirtual 101, 3) := by decide +kernel
theorem dL_law_278 : decode cL_law 278 = .ok (.aload_n 2, 1) := by decide +kernel
theorem dL_law_279 : decode cL_law 279 = .ok (.invokevirtual 90, 3) := by decide +kernel
theorem dL_law_282 : decode cL_law 282 = .ok (.iload 5, 2) := by decide +kernel
theorem dL_law_284 : decode cL_law 284 = .ok (.if_icmp .eq 5, 3) := by decide +kernel
theorem dL_law_287 : decode cL_law 287 = .ok (.iconst 0, 1) := by decide +kernel
theorem dL_law_288 : decode cL_law 288 = .ok (.ireturn, 1) := by decide +kernel
theorem dL_law_289 : decode cL_law 289 = .ok (.goto 853, 3) := by decide +kernel
theorem dL_law_292 : decode cL_law 292 = .ok (.aload_n 1, 1) := by decide +kernel
theorem dL_law_293 : decode cL_law 293 = .ok (.aload_n 0, 1) := by decide +kernel
theorem dL_law_294 : decode cL_law 294 = .ok (.iload 4, 2) := by decide +kernel
theorem dL_law_296 : decode cL_law 296 = .ok (.iconst 1, 1) := by decide +kernel
theorem dL_law_297 : decode cL_law 297 = .ok (.iadd, 1) := by decide +kernel
theorem dL_law_298 : decode cL_law 298 = .ok (.iaload, 1) := by decide +kernel
theorem dL_law_299 : decode cL_law 299 = .ok (.aload_n 0, 1) := by decide +kernel
theorem dL_law_300 : decode cL_law 300 = .ok (.iload 4, 2) := by decide +kernel
theorem dL_law_302 : decode cL_law 302 = .ok (.iconst 2, 1) := by decide +kernel
theorem dL_law_303 : decode cL_law 303 = .ok (.iadd, 1) := by decide +kernel
theorem dL_law_304 : decode cL_law 304 = .ok (.iaload, 1) := by decide +kernel
theorem dL_law_305 : decode cL_law 305 = .ok (.aload_n 0, 1) := by decide +kernel
theorem dL_law_306 : decode cL_law 306 = .ok (.iload 4, 2) := by decide +kernel
theorem dL_law_308 : decode cL_law 308 = .ok (.iconst 3, 1) := by decide +kernel
theorem dL_law_309 : decode cL_law 309 = .ok (.iadd, 1) := by decide +kernel
theorem dL_law_310 : decode cL_law 310 = .ok (.iaload, 1) := by decide +kernel
theorem dL_law_311 : decode cL_law 311 = .ok (.invokestatic 102, 3) := by decide +kernel
theorem dL_law_314 : decode cL_law 314 = .ok (.istore 5, 2) := by decide +kernel
theorem dL_law_316 : decode cL_law 316 = .ok (.aload_n 2, 1) := by decide +kernel
theorem dL_law_317 : decode cL_law 317 = .ok (.aload_n 0, 1) := by decide +kernel
theorem dL_law_318 : decode cL_law 318 = .ok (.iload 4, 2) := by decide +kernel
theorem dL_law_320 : decode cL_law 320 = .ok (.iconst 1, 1) := by decide +kernel
theorem dL_law_321 : decode cL_law 321 = .ok (.iadd, 1) := by decide +kernel
theorem dL_law_322 : decode cL_law 322 = .ok (.iaload, 1) := by decide +kernel
theorem dL_law_323 : decode cL_law 323 = .ok (.aload_n 0, 1) := by decide +kernel
theorem dL_law_324 : decode cL_law 324 = .ok (.iload 4, 2) := by decide +kernel
theorem dL_law_326 : decode cL_law 326 = .ok (.iconst 2, 1) := by decide +kernel
theorem dL_law_327 : decode cL_law 327 = .ok (.iadd, 1) := by decide +kernel
theorem dL_law_328 : decode cL_law 328 = .ok (.iaload, 1) := by decide +kernel
theorem dL_law_329 : decode cL_law 329 = .ok (.aload_n 0, 1) := by decide +kernel
theorem dL_law_330 : decode cL_law 330 = .ok (.iload 4, 2) := by decide +kernel
theorem dL_law_332 : decode cL_law 332 = .ok (.iconst 3, 1) := by decide +kernel
theorem dL_law_333 : decode cL_law 333 = .ok (.iadd, 1) := by decide +kernel
theorem dL_law_334 : decode cL_law 334 = .ok (.iaload, 1) := by decide +kernel
theorem dL_law_335 : decode cL_law 335 = .ok (.invokevirtual 105, 3) := by decide +kernel
theorem dL_law_338 : decode cL_law 338 = .ok (.aload_n 2, 1) := by decide +kernel
theorem dL_law_339 : decode cL_law 339 = .ok (.invokevirtual 90, 3) := by decide +kernel
theorem dL_law_342 : decode cL_law 342 = .ok (.iload 5, 2) := by decide +kernel
theorem dL_law_344 : decode cL_law 344 = .ok (.if_icmp .eq 5, 3) := by decide +kernel
theorem dL_law_347 : decode cL_law 347 = .ok (.iconst 0, 1) := by decide +kernel
theorem dL_law_348 : decode cL_law 348 = .ok (.ireturn, 1) := by decide +kernel
theorem dL_law_349 : decode cL_law 349 = .ok (.goto 793, 3) := by decide +kernel
theorem dL_law_352 : decode cL_law 352 = .ok (.aload_n 1, 1) := by decide +kernel
theorem dL_law_353 : decode cL_law 353 = .ok (.aload_n 0, 1) := by decide +kernel
theorem dL_law_354 : decode cL_law 354 = .ok (.iload 4, 2) := by decide +kernel
theorem dL_law_356 : decode cL_law 356 = .ok (.iconst 1, 1) := by decide +kernel
theorem dL_law_357 : decode cL_law 357 = .ok (.iadd, 1) := by decide +kernel
theorem dL_law_358 : decode cL_law 358 = .ok (.iaload, 1) := by decide +kernel
theorem dL_law_359 : decode cL_law 359 = .ok (.aload_n 0, 1) := by decide +kernel
theorem dL_law_360 : decode cL_law 360 = .ok (.iload 4, 2) := by decide +kernel
theorem dL_law_362 : decode cL_law 362 = .ok (.iconst 2, 1) := by decide +kernel
theorem dL_law_363 : decode cL_law 363 = .ok (.iadd, 1) := by decide +kernel
theorem dL_law_364 : decode cL_law 364 = .ok (.iaload, 1) := by decide +kernel
theorem dL_law_365 : decode cL_law 365 = .ok (.aload_n 0, 1) := by decide +kernel
theorem dL_law_366 : decode cL_law 366 = .ok (.iload 4, 2) := by decide +kernel
theorem dL_law_368 : decode cL_law 368 = .ok (.iconst 3, 1) := by decide +kernel
theorem dL_law_369 : decode cL_law 369 = .ok (.iadd, 1) := by decide +kernel
theorem dL_law_370 : decode cL_law 370 = .ok (.iaload, 1) := by decide +kernel
theorem dL_law_371 : decode cL_law 371 = .ok (.invokestatic 106, 3) := by decide +kernel
theorem dL_law_374 : decode cL_law 374 = .ok (.istore 5, 2) := by decide +kernel
theorem dL_law_376 : decode cL_law 376 = .ok (.aload_n 2, 1) := by decide +kernel
theorem dL_law_377 : decode cL_law 377 = .ok (.aload_n 0, 1) := by decide +kernel
theorem dL_law_378 : decode cL_law 378 = .ok (.iload 4, 2) := by decide +kernel
theorem dL_law_380 : decode cL_law 380 = .ok (.iconst 1, 1) := by decide +kernel
theorem dL_law_381 : decode cL_law 381 = .ok (.iadd, 1) := by decide +kernel
theorem dL_law_382 : decode cL_law 382 = .ok (.iaload, 1) := by decide +kernel
theorem dL_law_383 : decode cL_law 383 = .ok (.aload_n 0, 1) := by decide +kernel
theorem dL_law_384 : decode cL_law 384 = .ok (.iload 4, 2) := by decide +kernel
theorem dL_law_386 : decode cL_law 386 = .ok (.iconst 2, 1) := by decide +kernel
theorem dL_law_387 : decode cL_law 387 = .ok (.iadd, 1) := by decide +kernel
theorem dL_law_388 : decode cL_law 388 = .ok (.iaload, 1) := by decide +kernel
theorem dL_law_389 : decode cL_law 389 = .ok (.aload_n 0, 1) := by decide +kernel
theorem dL_law_390 : decode cL_law 390 = .ok (.iload 4, 2) := by decide +kernel
theorem dL_law_392 : decode cL_law 392 = .ok (.iconst 3, 1) := by decide +kernel
theorem dL_law_393 : decode cL_law 393 = .ok (.iadd, 1) := by decide +kernel
theorem dL_law_394 : decode cL_law 394 = .ok (.iaload, 1) := by decide +kernel
theorem dL_law_395 : decode cL_law 395 = .ok (.invokevirtual 108, 3) := by decide +kernel
theorem dL_law_398 : decode cL_law 398 = .ok (.aload_n 2, 1) := by decide +kernel
theorem dL_law_399 : decode cL_law 399 = .ok (.invokevirtual 90, 3) := by decide +kernel
theorem dL_law_402 : decode cL_law 402 = .ok (.iload 5, 2) := by decide +kernel
theorem dL_law_404 : decode cL_law 404 = .ok (.if_icmp .eq 5, 3) := by decide +kernel
theorem dL_law_407 : decode cL_law 407 = .ok (.iconst 0, 1) := by decide +kernel
theorem dL_law_408 : decode cL_law 408 = .ok (.ireturn, 1) := by decide +kernel
theorem dL_law_409 : decode cL_law 409 = .ok (.goto 733, 3) := by decide +kernel
theorem dL_law_412 : decode cL_law 412 = .ok (.aload_n 1, 1) := by decide +kernel
theorem dL_law_413 : decode cL_law 413 = .ok (.aload_n 0, 1) := by decide +kernel
theorem dL_law_414 : decode cL_law 414 = .ok (.iload 4, 2) := by decide +kernel
theorem dL_law_416 : decode cL_law 416 = .ok (.iconst 1, 1) := by decide +kernel
theorem dL_law_417 : decode cL_law 417 = .ok (.iadd, 1) := by decide +kernel
theorem dL_law_418 : decode cL_law 418 = .ok (.iaload, 1) := by decide +kernel
theorem dL_law_419 : decode cL_law 419 = .ok (.aload_n 0, 1) := by decide +kernel
theorem dL_law_420 : decode cL_law 420 = .ok (.iload 4, 2) := by decide +kernel
theorem dL_law_422 : decode cL_law 422 = .ok (.iconst 2, 1) := by decide +kernel
theorem dL_law_423 : decode cL_law 423 = .ok (.iadd, 1) := by decide +kernel
theorem dL_law_424 : decode cL_law 424 = .ok (.iaload, 1) := by decide +kernel
theorem dL_law_425 : decode cL_law 425 = .ok (.invokestatic 109, 3) := by decide +kernel
theorem dL_law_428 : decode cL_law 428 = .ok (.istore 5, 2) := by decide +kernel
theorem dL_law_430 : decode cL_law 430 = .ok (.aload_n 2, 1) := by decide +kernel
theorem dL_law_431 : decode cL_law 431 = .ok (.aload_n 0, 1) := by decide +kernel
theorem dL_law_432 : decode cL_law 432 = .ok (.iload 4, 2) := by decide +kernel
theorem dL_law_434 : decode cL_law 434 = .ok (.iconst 1, 1) := by decide +kernel
theorem dL_law_435 : decode cL_law 435 = .ok (.iadd, 1) := by decide +kernel
theorem dL_law_436 : decode cL_law 436 = .ok (.iaload, 1) := by decide +kernel
theorem dL_law_437 : decode cL_law 437 = .ok (.aload_n 0, 1) := by decide +kernel
theorem dL_law_438 : decode cL_law 438 = .ok (.iload 4, 2) := by decide +kernel
theorem dL_law_440 : decode cL_law 440 = .ok (.iconst 2, 1) := by decide +kernel
theorem dL_law_441 : decode cL_law 441 = .ok (.iadd, 1) := by decide +kernel
theorem dL_law_442 : decode cL_law 442 = .ok (.iaload, 1) := by decide +kernel
theorem dL_law_443 : decode cL_law 443 = .ok (.invokevirtual 111, 3) := by decide +kernel
theorem dL_law_446 : decode cL_law 446 = .ok (.aload_n 2, 1) := by decide +kernel
theorem dL_law_447 : decode cL_law 447 = .ok (.invokevirtual 90, 3) := by decide +kernel
theorem dL_law_450 : decode cL_law 450 = .ok (.iload 5, 2) := by decide +kernel
theorem dL_law_452 : decode cL_law 452 = .ok (.if_icmp .eq 5, 3) := by decide +kernel
theorem dL_law_455 : decode cL_law 455 = .ok (.iconst 0, 1) := by decide +kernel
theorem dL_law_456 : decode cL_law 456 = .ok (.ireturn, 1) := by decide +kernel
theorem dL_law_457 : decode cL_law 457 = .ok (.goto 685, 3) := by decide +kernel
theorem dL_law_460 : decode cL_law 460 = .ok (.aload_n 1, 1) := by decide +kernel
theorem dL_law_461 : decode cL_law 461 = .ok (.aload_n 0, 1) := by decide +kernel
theorem dL_law_462 : decode cL_law 462 = .ok (.iload 4, 2) := by decide +kernel
theorem dL_law_464 : decode cL_law 464 = .ok (.iconst 1, 1) := by decide +kernel
theorem dL_law_465 : decode cL_law 465 = .ok (.iadd, 1) := by decide +kernel
theorem dL_law_466 : decode cL_law 466 = .ok (.iaload, 1) := by decide +kernel
theorem dL_law_467 : decode cL_law 467 = .ok (.aload_n 0, 1) := by decide +kernel
theorem dL_law_468 : decode cL_law 468 = .ok (.iload 4, 2) := by decide +kernel
theorem dL_law_470 : decode cL_law 470 = .ok (.iconst 2, 1) := by decide +kernel
theorem dL_law_471 : decode cL_law 471 = .ok (.iadd, 1) := by decide +kernel
theorem dL_law_472 : decode cL_law 472 = .ok (.iaload, 1) := by decide +kernel
theorem dL_law_473 : decode cL_law 473 = .ok (.invokestatic 112, 3) := by decide +kernel
theorem dL_law_476 : decode cL_law 476 = .ok (.istore 5, 2) := by decide +kernel
theorem dL_law_478 : decode cL_law 478 = .ok (.aload_n 2, 1) := by decide +kernel
theorem dL_law_479 : decode cL_law 479 = .ok (.aload_n 0, 1) := by decide +kernel
theorem dL_law_480 : decode cL_law 480 = .ok (.iload 4, 2) := by decide +kernel
theorem dL_law_482 : decode cL_law 482 = .ok (.iconst 1, 1) := by decide +kernel
theorem dL_law_483 : decode cL_law 483 = .ok (.iadd, 1) := by decide +kernel
theorem dL_law_484 : decode cL_law 484 = .ok (.iaload, 1) := by decide +kernel
theorem dL_law_485 : decode cL_law 485 = .ok (.aload_n 0, 1) := by decide +kernel
theorem dL_law_486 : decode cL_law 486 = .ok (.iload 4, 2) := by decide +kernel
theorem dL_law_488 : decode cL_law 488 = .ok (.iconst 2, 1) := by decide +kernel
theorem dL_law_489 : decode cL_law 489 = .ok (.iadd, 1) := by decide +kernel
theorem dL_law_490 : decode cL_law 490 = .ok (.iaload, 1) := by decide +kernel
theorem dL_law_491 : decode cL_law 491 = .ok (.invokevirtual 114, 3) := by decide +kernel
theorem dL_law_494 : decode cL_law 494 = .ok (.aload_n 2, 1) := by decide +kernel
theorem dL_law_495 : decode cL_law 495 = .ok (.invokevirtual 90, 3) := by decide +kernel
theorem dL_law_498 : decode cL_law 498 = .ok (.iload 5, 2) := by decide +kernel
theorem dL_law_500 : decode cL_law 500 = .ok (.if_icmp .eq 5, 3) := by decide +kernel
theorem dL_law_503 : decode cL_law 503 = .ok (.iconst 0, 1) := by decide +kernel
theorem dL_law_504 : decode cL_law 504 = .ok (.ireturn, 1) := by decide +kernel
theorem dL_law_505 : decode cL_law 505 = .ok (.goto 637, 3) := by decide +kernel
theorem dL_law_508 : decode cL_law 508 = .ok (.aload_n 1, 1) := by decide +kernel
theorem dL_law_509 : decode cL_law 509 = .ok (.aload_n 0, 1) := by decide +kernel
theorem dL_law_510 : decode cL_law 510 = .ok (.iload 4, 2) := by decide +kernel
theorem dL_law_512 : decode cL_law 512 = .ok (.iconst 1, 1) := by decide +kernel
theorem dL_law_513 : decode cL_law 513 = .ok (.iadd, 1) := by decide +kernel
theorem dL_law_514 : decode cL_law 514 = .ok (.iaload, 1) := by decide +kernel
theorem dL_law_515 : decode cL_law 515 = .ok (.aload_n 0, 1) := by decide +kernel
theorem dL_law_516 : decode cL_law 516 = .ok (.iload 4, 2) := by decide +kernel
theorem dL_law_518 : decode cL_law 518 = .ok (.iconst 2, 1) := by decide +kernel
theorem dL_law_519 : decode cL_law 519 = .ok (.iadd, 1) := by decide +kernel
theorem dL_law_520 : decode cL_law 520 = .ok (.iaload, 1) := by decide +kernel
theorem dL_law_521 : decode cL_law 521 = .ok (.invokestatic 115, 3) := by decide +kernel
theorem dL_law_524 : decode cL_law 524 = .ok (.istore 5, 2) := by decide +kernel
theorem dL_law_526 : decode cL_law 526 = .ok (.aload_n 2, 1) := by decide +kernel
theorem dL_law_527 : decode cL_law 527 = .ok (.aload_n 0, 1) := by decide +kernel
theorem dL_law_528 : decode cL_law 528 = .ok (.iload 4, 2) := by decide +kernel
theorem dL_law_530 : decode cL_law 530 = .ok (.iconst 1, 1) := by decide +kernel
theorem dL_law_531 : decode cL_law 531 = .ok (.iadd, 1) := by decide +kernel
theorem dL_law_532 : decode cL_law 532 = .ok (.iaload, 1) := by decide +kernel
theorem dL_law_533 : decode cL_law 533 = .ok (.aload_n 0, 1) := by decide +kernel
theorem dL_law_534 : decode cL_law 534 = .ok (.iload 4, 2) := by decide +kernel
theorem dL_law_536 : decode cL_law 536 = .ok (.iconst 2, 1) := by decide +kernel
theorem dL_law_537 : decode cL_law 537 = .ok (.iadd, 1) := by decide +kernel
theorem dL_law_538 : decode cL_law 538 = .ok (.iaload, 1) := by decide +kernel
theorem dL_law_539 : decode cL_law 539 = .ok (.invokevirtual 117, 3) := by decide +kernel
theorem dL_law_542 : decode cL_law 542 = .ok (.aload_n 2, 1) := by decide +kernel
theorem dL_law_543 : decode cL_law 543 = .ok (.invokevirtual 90, 3) := by decide +kernel
theorem dL_law_546 : decode cL_law 546 = .ok (.iload 5, 2) := by decide +kernel
theorem dL_law_548 : decode cL_law 548 = .ok (.if_icmp .eq 5, 3) := by decide +kernel
theorem dL_law_551 : decode cL_law 551 = .ok (.iconst 0, 1) := by decide +kernel
theorem dL_law_552 : decode cL_law 552 = .ok (.ireturn, 1) := by decide +kernel
theorem dL_law_553 : decode cL_law 553 = .ok (.goto 589, 3) := by decide +kernel
theorem dL_law_556 : decode cL_law 556 = .ok (.aload_n 1, 1) := by decide +kernel
theorem dL_law_557 : decode cL_law 557 = .ok (.aload_n 0, 1) := by decide +kernel
theorem dL_law_558 : decode cL_law 558 = .ok (.iload 4, 2) := by decide +kernel
theorem dL_law_560 : decode cL_law 560 = .ok (.iconst 1, 1) := by decide +kernel
theorem dL_law_561 : decode cL_law 561 = .ok (.iadd, 1) := by decide +kernel
theorem dL_law_562 : decode cL_law 562 = .ok (.iaload, 1) := by decide +kernel
theorem dL_law_563 : decode cL_law 563 = .ok (.aload_n 0, 1) := by decide +kernel
theorem dL_law_564 : decode cL_law 564 = .ok (.iload 4, 2) := by decide +kernel
theorem dL_law_566 : decode cL_law 566 = .ok (.iconst 2, 1) := by decide +kernel
theorem dL_law_567 : decode cL_law 567 = .ok (.iadd, 1) := by decide +kernel
theorem dL_law_568 : decode cL_law 568 = .ok (.iaload, 1) := by decide +kernel
theorem dL_law_569 : decode cL_law 569 = .ok (.invokestatic 118, 3) := by decide +kernel
theorem dL_law_572 : decode cL_law 572 = .ok (.istore 5, 2) := by decide +kernel
theorem dL_law_574 : decode cL_law 574 = .ok (.aload_n 2, 1) := by decide +kernel
theorem dL_law_575 : decode cL_law 575 = .ok (.aload_n 0, 1) := by decide +kernel
theorem dL_law_576 : decode cL_law 576 = .ok (.iload 4, 2) := by decide +kernel
theorem dL_law_578 : decode cL_law 578 = .ok (.iconst 1, 1) := by decide +kernel
theorem dL_law_579 : decode cL_law 579 = .ok (.iadd, 1) := by decide +kernel
theorem dL_law_580 : decode cL_law 580 = .ok (.iaload, 1) := by decide +kernel
theorem dL_law_581 : decode cL_law 581 = .ok (.aload_n 0, 1) := by decide +kernel
theorem dL_law_582 : decode cL_law 582 = .ok (.iload 4, 2) := by decide +kernel
theorem dL_law_584 : decode cL_law 584 = .ok (.iconst 2, 1) := by decide +kernel
theorem dL_law_585 : decode cL_law 585 = .ok (.iadd, 1) := by decide +kernel
theorem dL_law_586 : decode cL_law 586 = .ok (.iaload, 1) := by decide +kernel
theorem dL_law_587 : decode cL_law 587 = .ok (.invokevirtual 120, 3) := by decide +kernel
theorem dL_law_590 : decode cL_law 590 = .ok (.aload_n 2, 1) := by decide +kernel
theorem dL_law_591 : decode cL_law 591 = .ok (.invokevirtual 90, 3) := by decide +kernel
theorem dL_law_594 : decode cL_law 594 = .ok (.iload 5, 2) := by decide +kernel
theorem dL_law_596 : decode cL_law 596 = .ok (.if_icmp .eq 5, 3) := by decide +kernel
theorem dL_law_599 : decode cL_law 599 = .ok (.iconst 0, 1) := by decide +kernel
theorem dL_law_600 : decode cL_law 600 = .ok (.ireturn, 1) := by decide +kernel
theorem dL_law_601 : decode cL_law 601 = .ok (.goto 541, 3) := by decide +kernel
theorem dL_law_604 : decode cL_law 604 = .ok (.aload_n 1, 1) := by decide +kernel
theorem dL_law_605 : decode cL_law 605 = .ok (.aload_n 0, 1) := by decide +kernel
theorem dL_law_606 : decode cL_law 606 = .ok (.iload 4, 2) := by decide +kernel
theorem dL_law_608 : decode cL_law 608 = .ok (.iconst 1, 1) := by decide +kernel
theorem dL_law_609 : decode cL_law 609 = .ok (.iadd, 1) := by decide +kernel
theorem dL_law_610 : decode cL_law 610 = .ok (.iaload, 1) := by decide +kernel
theorem dL_law_611 : decode cL_law 611 = .ok (.aload_n 0, 1) := by decide +kernel
theorem dL_law_612 : decode cL_law 612 = .ok (.iload 4, 2) := by decide +kernel
theorem dL_law_614 : decode cL_law 614 = .ok (.iconst 2, 1) := by decide +kernel
theorem dL_law_615 : decode cL_law 615 = .ok (.iadd, 1) := by decide +kernel
theorem dL_law_616 : decode cL_law 616 = .ok (.iaload, 1) := by decide +kernel
theorem dL_law_617 : decode cL_law 617 = .ok (.aload_n 0, 1) := by decide +kernel
theorem dL_law_618 : decode cL_law 618 = .ok (.iload 4, 2) := by decide +kernel
theorem dL_law_620 : decode cL_law 620 = .ok (.iconst 3, 1) := by decide +kernel
theorem dL_law_621 : decode cL_law 621 = .ok (.iadd, 1) := by decide +kernel
theorem dL_law_622 : decode cL_law 622 = .ok (.iaload, 1) := by decide +kernel
theorem dL_law_623 : decode cL_law 623 = .ok (.invokestatic 121, 3) := by decide +kernel
theorem dL_law_626 : decode cL_law 626 = .ok (.istore 5, 2) := by decide +kernel
theorem dL_law_628 : decode cL_law 628 = .ok (.aload_n 2, 1) := by decide +kernel
theorem dL_law_629 : decode cL_law 629 = .ok (.aload_n 0, 1) := by decide +kernel
theorem dL_law_630 : decode cL_law 630 = .ok (.iload 4, 2) := by decide +kernel
theorem dL_law_632 : decode cL_law 632 = .ok (.iconst 1, 1) := by decide +kernel
theorem dL_law_633 : decode cL_law 633 = .ok (.iadd, 1) := by decide +kernel
theorem dL_law_634 : decode cL_law 634 = .ok (.iaload, 1) := by decide +kernel
theorem dL_law_635 : decode cL_law 635 = .ok (.aload_n 0, 1) := by decide +kernel
theorem dL_law_636 : decode cL_law 636 = .ok (.iload 4, 2) := by decide +kernel
theorem dL_law_638 : decode cL_law 638 = .ok (.iconst 2, 1) := by decide +kernel
theorem dL_law_639 : decode cL_law 639 = .ok (.iadd, 1) := by decide +kernel
theorem dL_law_640 : decode cL_law 640 = .ok (.iaload, 1) := by decide +kernel
theorem dL_law_641 : decode cL_law 641 = .ok (.aload_n 0, 1) := by decide +kernel
theorem dL_law_642 : decode cL_law 642 = .ok (.iload 4, 2) := by decide +kernel
theorem dL_law_644 : decode cL_law 644 = .ok (.iconst 3, 1) := by decide +kernel
theorem dL_law_645 : decode cL_law 645 = .ok (.iadd, 1) := by decide +kernel
theorem dL_law_646 : decode cL_law 646 = .ok (.iaload, 1) := by decide +kernel
theorem dL_law_647 : decode cL_law 647 = .ok (.invokevirtual 123, 3) := by decide +kernel
theorem dL_law_650 : decode cL_law 650 = .ok (.aload_n 2, 1) := by decide +kernel
theorem dL_law_651 : decode cL_law 651 = .ok (.invokevirtual 90, 3) := by decide +kernel
theorem dL_law_654 : decode cL_law 654 = .ok (.iload 5, 2) := by decide +kernel
theorem dL_law_656 : decode cL_law 656 = .ok (.if_icmp .eq 5, 3) := by decide +kernel
theorem dL_law_659 : decode cL_law 659 = .ok (.iconst 0, 1) := by decide +kernel
theorem dL_law_660 : decode cL_law 660 = .ok (.ireturn, 1) := by decide +kernel
theorem dL_law_661 : decode cL_law 661 = .ok (.goto 481, 3) := by decide +kernel
theorem dL_law_664 : decode cL_law 664 = .ok (.aload_n 1, 1) := by decide +kernel
theorem dL_law_665 : decode cL_law 665 = .ok (.aload_n 0, 1) := by decide +kernel
theorem dL_law_666 : decode cL_law 666 = .ok (.iload 4, 2) := by decide +kernel
theorem dL_law_668 : decode cL_law 668 = .ok (.iconst 1, 1) := by decide +kernel
theorem dL_law_669 : decode cL_law 669 = .ok (.iadd, 1) := by decide +kernel
theorem dL_law_670 : decode cL_law 670 = .ok (.iaload, 1) := by decide +kernel
theorem dL_law_671 : decode cL_law 671 = .ok (.aload_n 3, 1) := by decide +kernel
theorem dL_law_672 : decode cL_law 672 = .ok (.invokestatic 124, 3) := by decide +kernel
theorem dL_law_675 : decode cL_law 675 = .ok (.istore 5, 2) := by decide +kernel
theorem dL_law_677 : decode cL_law 677 = .ok (.aload_n 2, 1) := by decide +kernel
theorem dL_law_678 : decode cL_law 678 = .ok (.aload_n 0, 1) := by decide +kernel
theorem dL_law_679 : decode cL_law 679 = .ok (.iload 4, 2) := by decide +kernel
theorem dL_law_681 : decode cL_law 681 = .ok (.iconst 1, 1) := by decide +kernel
theorem dL_law_682 : decode cL_law 682 = .ok (.iadd, 1) := by decide +kernel
theorem dL_law_683 : decode cL_law 683 = .ok (.iaload, 1) := by decide +kernel
theorem dL_law_684 : decode cL_law 684 = .ok (.invokevirtual 127, 3) := by decide +kernel
theorem dL_law_687 : decode cL_law 687 = .ok (.istore 6, 2) := by decide +kernel
theorem dL_law_689 : decode cL_law 689 = .ok (.aload_n 2, 1) := by decide +kernel
theorem dL_law_690 : decode cL_law 690 = .ok (.invokevirtual 90, 3) := by decide +kernel
theorem dL_law_693 : decode cL_law 693 = .ok (.iload 5, 2) := by decide +kernel
theorem dL_law_695 : decode cL_law 695 = .ok (.if_icmp .eq 5, 3) := by decide +kernel
theorem dL_law_698 : decode cL_law 698 = .ok (.iconst 0, 1) := by decide +kernel
theorem dL_law_699 : decode cL_law 699 = .ok (.ireturn, 1) := by decide +kernel
theorem dL_law_700 : decode cL_law 700 = .ok (.iload 5, 2) := by decide +kernel
theorem dL_law_702 : decode cL_law 702 = .ok (.ifCond .ne 15, 3) := by decide +kernel
theorem dL_law_705 : decode cL_law 705 = .ok (.aload_n 3, 1) := by decide +kernel
theorem dL_law_706 : decode cL_law 706 = .ok (.iconst 0, 1) := by decide +kernel
theorem dL_law_707 : decode cL_law 707 = .ok (.laload, 1) := by decide +kernel
theorem dL_law_708 : decode cL_law 708 = .ok (.iload 6, 2) := by decide +kernel
theorem dL_law_710 : decode cL_law 710 = .ok (.i2l, 1) := by decide +kernel
theorem dL_law_711 : decode cL_law 711 = .ok (.lcmp, 1) := by decide +kernel
theorem dL_law_712 : decode cL_law 712 = .ok (.ifCond .eq 5, 3) := by decide +kernel
theorem dL_law_715 : decode cL_law 715 = .ok (.iconst 0, 1) := by decide +kernel
theorem dL_law_716 : decode cL_law 716 = .ok (.ireturn, 1) := by decide +kernel
theorem dL_law_717 : decode cL_law 717 = .ok (.goto 425, 3) := by decide +kernel
theorem dL_law_720 : decode cL_law 720 = .ok (.aload_n 1, 1) := by decide +kernel
theorem dL_law_721 : decode cL_law 721 = .ok (.aload_n 0, 1) := by decide +kernel
theorem dL_law_722 : decode cL_law 722 = .ok (.iload 4, 2) := by decide +kernel
theorem dL_law_724 : decode cL_law 724 = .ok (.iconst 1, 1) := by decide +kernel
theorem dL_law_725 : decode cL_law 725 = .ok (.iadd, 1) := by decide +kernel
theorem dL_law_726 : decode cL_law 726 = .ok (.iaload, 1) := by decide +kernel
theorem dL_law_727 : decode cL_law 727 = .ok (.aload_n 3, 1) := by decide +kernel
theorem dL_law_728 : decode cL_law 728 = .ok (.invokestatic 128, 3) := by decide +kernel
theorem dL_law_731 : decode cL_law 731 = .ok (.istore 5, 2) := by decide +kernel
theorem dL_law_733 : decode cL_law 733 = .ok (.aload_n 2, 1) := by decide +kernel
theorem dL_law_734 : decode cL_law 734 = .ok (.aload_n 0, 1) := by decide +kernel
theorem dL_law_735 : decode cL_law 735 = .ok (.iload 4, 2) := by decide +kernel
theorem dL_law_737 : decode cL_law 737 = .ok (.iconst 1, 1) := by decide +kernel
theorem dL_law_738 : decode cL_law 738 = .ok (.iadd, 1) := by decide +kernel
theorem dL_law_739 : decode cL_law 739 = .ok (.iaload, 1) := by decide +kernel
theorem dL_law_740 : decode cL_law 740 = .ok (.invokevirtual 130, 3) := by decide +kernel
theorem dL_law_743 : decode cL_law 743 = .ok (.lstore 6, 2) := by decide +kernel
theorem dL_law_745 : decode cL_law 745 = .ok (.aload_n 2, 1) := by decide +kernel
theorem dL_law_746 : decode cL_law 746 = .ok (.invokevirtual 90, 3) := by decide +kernel
theorem dL_law_749 : decode cL_law 749 = .ok (.iload 5, 2) := by decide +kernel
theorem dL_law_751 : decode cL_law 751 = .ok (.if_icmp .eq 5, 3) := by decide +kernel
theorem dL_law_754 : decode cL_law 754 = .ok (.iconst 0, 1) := by decide +kernel
theorem dL_law_755 : decode cL_law 755 = .ok (.ireturn, 1) := by decide +kernel
theorem dL_law_756 : decode cL_law 756 = .ok (.iload 5, 2) := by decide +kernel
theorem dL_law_758 : decode cL_law 758 = .ok (.ifCond .ne 14, 3) := by decide +kernel
theorem dL_law_761 : decode cL_law 761 = .ok (.aload_n 3, 1) := by decide +kernel
theorem dL_law_762 : decode cL_law 762 = .ok (.iconst 0, 1) := by decide +kernel
theorem dL_law_763 : decode cL_law 763 = .ok (.laload, 1) := by decide +kernel
theorem dL_law_764 : decode cL_law 764 = .ok (.lload 6, 2) := by decide +kernel
theorem dL_law_766 : decode cL_law 766 = .ok (.lcmp, 1) := by decide +kernel
theorem dL_law_767 : decode cL_law 767 = .ok (.ifCond .eq 5, 3) := by decide +kernel
theorem dL_law_770 : decode cL_law 770 = .ok (.iconst 0, 1) := by decide +kernel
theorem dL_law_771 : decode cL_law 771 = .ok (.ireturn, 1) := by decide +kernel
theorem dL_law_772 : decode cL_law 772 = .ok (.goto 370, 3) := by decide +kernel
theorem dL_law_775 : decode cL_law 775 = .ok (.aload_n 1, 1) := by decide +kernel
theorem dL_law_776 : decode cL_law 776 = .ok (.aload_n 0, 1) := by decide +kernel
theorem dL_law_777 : decode cL_law 777 = .ok (.iload 4, 2) := by decide +kernel
theorem dL_law_779 : decode cL_law 779 = .ok (.iconst 1, 1) := by decide +kernel
theorem dL_law_780 : decode cL_law 780 = .ok (.iadd, 1) := by decide +kernel
theorem dL_law_781 : decode cL_law 781 = .ok (.iaload, 1) := by decide +kernel
theorem dL_law_782 : decode cL_law 782 = .ok (.aload_n 0, 1) := by decide +kernel
theorem dL_law_783 : decode cL_law 783 = .ok (.iload 4, 2) := by decide +kernel
theorem dL_law_785 : decode cL_law 785 = .ok (.iconst 2, 1) := by decide +kernel
theorem dL_law_786 : decode cL_law 786 = .ok (.iadd, 1) := by decide +kernel
theorem dL_law_787 : decode cL_law 787 = .ok (.iaload, 1) := by decide +kernel
theorem dL_law_788 : decode cL_law 788 = .ok (.aload_n 3, 1) := by decide +kernel
theorem dL_law_789 : decode cL_law 789 = .ok (.invokestatic 131, 3) := by decide +kernel
theorem dL_law_792 : decode cL_law 792 = .ok (.istore 5, 2) := by decide +kernel
theorem dL_law_794 : decode cL_law 794 = .ok (.aload_n 2, 1) := by decide +kernel
theorem dL_law_795 : decode cL_law 795 = .ok (.aload_n 0, 1) := by decide +kernel
theorem dL_law_796 : decode cL_law 796 = .ok (.iload 4, 2) := by decide +kernel
theorem dL_law_798 : decode cL_law 798 = .ok (.iconst 1, 1) := by decide +kernel
theorem dL_law_799 : decode cL_law 799 = .ok (.iadd, 1) := by decide +kernel
theorem dL_law_800 : decode cL_law 800 = .ok (.iaload, 1) := by decide +kernel
theorem dL_law_801 : decode cL_law 801 = .ok (.aload_n 0, 1) := by decide +kernel
theorem dL_law_802 : decode cL_law 802 = .ok (.iload 4, 2) := by decide +kernel
theorem dL_law_804 : decode cL_law 804 = .ok (.iconst 2, 1) := by decide +kernel
theorem dL_law_805 : decode cL_law 805 = .ok (.iadd, 1) := by decide +kernel
theorem dL_law_806 : decode cL_law 806 = .ok (.iaload, 1) := by decide +kernel
theorem dL_law_807 : decode cL_law 807 = .ok (.invokevirtual 134, 3) := by decide +kernel
theorem dL_law_810 : decode cL_law 810 = .ok (.istore 6, 2) := by decide +kernel
theorem dL_law_812 : decode cL_law 812 = .ok (.aload_n 2, 1) := by decide +kernel
theorem dL_law_813 : decode cL_law 813 = .ok (.invokevirtual 90, 3) := by decide +kernel
theorem dL_law_816 : decode cL_law 816 = .ok (.iload 5, 2) := by decide +kernel
theorem dL_law_818 : decode cL_law 818 = .ok (.if_icmp .eq 5, 3) := by decide +kernel
theorem dL_law_821 : decode cL_law 821 = .ok (.iconst 0, 1) := by decide +kernel
theorem dL_law_822 : decode cL_law 822 = .ok (.ireturn, 1) := by decide +kernel
theorem dL_law_823 : decode cL_law 823 = .ok (.iload 5, 2) := by decide +kernel
theorem dL_law_825 : decode cL_law 825 = .ok (.ifCond .ne 22, 3) := by decide +kernel
theorem dL_law_828 : decode cL_law 828 = .ok (.aload_n 3, 1) := by decide +kernel
theorem dL_law_829 : decode cL_law 829 = .ok (.iconst 0, 1) := by decide +kernel
theorem dL_law_830 : decode cL_law 830 = .ok (.laload, 1) := by decide +kernel
theorem dL_law_831 : decode cL_law 831 = .ok (.iload 6, 2) := by decide +kernel
theorem dL_law_833 : decode cL_law 833 = .ok (.ifCond .eq 7, 3) := by decide +kernel
theorem dL_law_836 : decode cL_law 836 = .ok (.lconst 1, 1) := by decide +kernel
theorem dL_law_837 : decode cL_law 837 = .ok (.goto 4, 3) := by decide +kernel
theorem dL_law_840 : decode cL_law 840 = .ok (.lconst 0, 1) := by decide +kernel
theorem dL_law_841 : decode cL_law 841 = .ok (.lcmp, 1) := by decide +kernel
theorem dL_law_842 : decode cL_law 842 = .ok (.ifCond .eq 5, 3) := by decide +kernel
theorem dL_law_845 : decode cL_law 845 = .ok (.iconst 0, 1) := by decide +kernel
theorem dL_law_846 : decode cL_law 846 = .ok (.ireturn, 1) := by decide +kernel
theorem dL_law_847 : decode cL_law 847 = .ok (.goto 295, 3) := by decide +kernel
theorem dL_law_850 : decode cL_law 850 = .ok (.aload_n 1, 1) := by decide +kernel
theorem dL_law_851 : decode cL_law 851 = .ok (.aload_n 0, 1) := by decide +kernel
theorem dL_law_852 : decode cL_law 852 = .ok (.iload 4, 2) := by decide +kernel
theorem dL_law_854 : decode cL_law 854 = .ok (.iconst 1, 1) := by decide +kernel
theorem dL_law_855 : decode cL_law 855 = .ok (.iadd, 1) := by decide +kernel
theorem dL_law_856 : decode cL_law 856 = .ok (.iaload, 1) := by decide +kernel
theorem dL_law_857 : decode cL_law 857 = .ok (.aload_n 3, 1) := by decide +kernel
theorem dL_law_858 : decode cL_law 858 = .ok (.invokestatic 135, 3) := by decide +kernel
theorem dL_law_861 : decode cL_law 861 = .ok (.istore 5, 2) := by decide +kernel
theorem dL_law_863 : decode cL_law 863 = .ok (.aload_n 2, 1) := by decide +kernel
theorem dL_law_864 : decode cL_law 864 = .ok (.aload_n 0, 1) := by decide +kernel
theorem dL_law_865 : decode cL_law 865 = .ok (.iload 4, 2) := by decide +kernel
theorem dL_law_867 : decode cL_law 867 = .ok (.iconst 1, 1) := by decide +kernel
theorem dL_law_868 : decode cL_law 868 = .ok (.iadd, 1) := by decide +kernel
theorem dL_law_869 : decode cL_law 869 = .ok (.iaload, 1) := by decide +kernel
theorem dL_law_870 : decode cL_law 870 = .ok (.invokevirtual 137, 3) := by decide +kernel
theorem dL_law_873 : decode cL_law 873 = .ok (.istore 6, 2) := by decide +kernel
theorem dL_law_875 : decode cL_law 875 = .ok (.aload_n 2, 1) := by decide +kernel
theorem dL_law_876 : decode cL_law 876 = .ok (.invokevirtual 90, 3) := by decide +kernel
theorem dL_law_879 : decode cL_law 879 = .ok (.iload 5, 2) := by decide +kernel
theorem dL_law_881 : decode cL_law 881 = .ok (.if_icmp .eq 5, 3) := by decide +kernel
theorem dL_law_884 : decode cL_law 884 = .ok (.iconst 0, 1) := by decide +kernel
theorem dL_law_885 : decode cL_law 885 = .ok (.ireturn, 1) := by decide +kernel
theorem dL_law_886 : decode cL_law 886 = .ok (.iload 5, 2) := by decide +kernel
theorem dL_law_888 : decode cL_law 888 = .ok (.ifCond .ne 15, 3) := by decide +kernel
theorem dL_law_891 : decode cL_law 891 = .ok (.aload_n 3, 1) := by decide +kernel
theorem dL_law_892 : decode cL_law 892 = .ok (.iconst 0, 1) := by decide +kernel
theorem dL_law_893 : decode cL_law 893 = .ok (.laload, 1) := by decide +kernel
theorem dL_law_894 : decode cL_law 894 = .ok (.iload 6, 2) := by decide +kernel
theorem dL_law_896 : decode cL_law 896 = .ok (.i2l, 1) := by decide +kernel
theorem dL_law_897 : decode cL_law 897 = .ok (.lcmp, 1) := by decide +kernel
theorem dL_law_898 : decode cL_law 898 = .ok (.ifCond .eq 5, 3) := by decide +kernel
theorem dL_law_901 : decode cL_law 901 = .ok (.iconst 0, 1) := by decide +kernel
theorem dL_law_902 : decode cL_law 902 = .ok (.ireturn, 1) := by decide +kernel
theorem dL_law_903 : decode cL_law 903 = .ok (.goto 239, 3) := by decide +kernel
theorem dL_law_906 : decode cL_law 906 = .ok (.aload_n 1, 1) := by decide +kernel
theorem dL_law_907 : decode cL_law 907 = .ok (.aload_n 0, 1) := by decide +kernel
theorem dL_law_908 : decode cL_law 908 = .ok (.iload 4, 2) := by decide +kernel
theorem dL_law_910 : decode cL_law 910 = .ok (.iconst 1, 1) := by decide +kernel
theorem dL_law_911 : decode cL_law 911 = .ok (.iadd, 1) := by decide +kernel
theorem dL_law_912 : decode cL_law 912 = .ok (.iaload, 1) := by decide +kernel
theorem dL_law_913 : decode cL_law 913 = .ok (.aload_n 3, 1) := by decide +kernel
theorem dL_law_914 : decode cL_law 914 = .ok (.invokestatic 138, 3) := by decide +kernel
theorem dL_law_917 : decode cL_law 917 = .ok (.istore 5, 2) := by decide +kernel
theorem dL_law_919 : decode cL_law 919 = .ok (.aload_n 2, 1) := by decide +kernel
theorem dL_law_920 : decode cL_law 920 = .ok (.aload_n 0, 1) := by decide +kernel
theorem dL_law_921 : decode cL_law 921 = .ok (.iload 4, 2) := by decide +kernel
theorem dL_law_923 : decode cL_law 923 = .ok (.iconst 1, 1) := by decide +kernel
theorem dL_law_924 : decode cL_law 924 = .ok (.iadd, 1) := by decide +kernel
theorem dL_law_925 : decode cL_law 925 = .ok (.iaload, 1) := by decide +kernel
theorem dL_law_926 : decode cL_law 926 = .ok (.invokevirtual 140, 3) := by decide +kernel
theorem dL_law_929 : decode cL_law 929 = .ok (.istore 6, 2) := by decide +kernel
theorem dL_law_931 : decode cL_law 931 = .ok (.aload_n 2, 1) := by decide +kernel
theorem dL_law_932 : decode cL_law 932 = .ok (.invokevirtual 90, 3) := by decide +kernel
theorem dL_law_935 : decode cL_law 935 = .ok (.iload 5, 2) := by decide +kernel
theorem dL_law_937 : decode cL_law 937 = .ok (.if_icmp .eq 5, 3) := by decide +kernel
theorem dL_law_940 : decode cL_law 940 = .ok (.iconst 0, 1) := by decide +kernel
theorem dL_law_941 : decode cL_law 941 = .ok (.ireturn, 1) := by decide +kernel
theorem dL_law_942 : decode cL_law 942 = .ok (.iload 5, 2) := by decide +kernel
theorem dL_law_944 : decode cL_law 944 = .ok (.ifCond .ne 15, 3) := by decide +kernel
theorem dL_law_947 : decode cL_law 947 = .ok (.aload_n 3, 1) := by decide +kernel
theorem dL_law_948 : decode cL_law 948 = .ok (.iconst 0, 1) := by decide +kernel
theorem dL_law_949 : decode cL_law 949 = .ok (.laload, 1) := by decide +kernel
theorem dL_law_950 : decode cL_law 950 = .ok (.iload 6, 2) := by decide +kernel
theorem dL_law_952 : decode cL_law 952 = .ok (.i2l, 1) := by decide +kernel
theorem dL_law_953 : decode cL_law 953 = .ok (.lcmp, 1) := by decide +kernel
theorem dL_law_954 : decode cL_law 954 = .ok (.ifCond .eq 5, 3) := by decide +kernel
theorem dL_law_957 : decode cL_law 957 = .ok (.iconst 0, 1) := by decide +kernel
theorem dL_law_958 : decode cL_law 958 = .ok (.ireturn, 1) := by decide +kernel
theorem dL_law_959 : decode cL_law 959 = .ok (.goto 183, 3) := by decide +kernel
theorem dL_law_962 : decode cL_law 962 = .ok (.aload_n 1, 1) := by decide +kernel
theorem dL_law_963 : decode cL_law 963 = .ok (.aload_n 0, 1) := by decide +kernel
theorem dL_law_964 : decode cL_law 964 = .ok (.iload 4, 2) := by decide +kernel
theorem dL_law_966 : decode cL_law 966 = .ok (.iconst 1, 1) := by decide +kernel
theorem dL_law_967 : decode cL_law 967 = .ok (.iadd, 1) := by decide +kernel
theorem dL_law_968 : decode cL_law 968 = .ok (.iaload, 1) := by decide +kernel
theorem dL_law_969 : decode cL_law 969 = .ok (.aload_n 0, 1) := by decide +kernel
theorem dL_law_970 : decode cL_law 970 = .ok (.iload 4, 2) := by decide +kernel
theorem dL_law_972 : decode cL_law 972 = .ok (.iconst 2, 1) := by decide +kernel
theorem dL_law_973 : decode cL_law 973 = .ok (.iadd, 1) := by decide +kernel
theorem dL_law_974 : decode cL_law 974 = .ok (.iaload, 1) := by decide +kernel
theorem dL_law_975 : decode cL_law 975 = .ok (.aload_n 3, 1) := by decide +kernel
theorem dL_law_976 : decode cL_law 976 = .ok (.invokestatic 141, 3) := by decide +kernel
theorem dL_law_979 : decode cL_law 979 = .ok (.istore 5, 2) := by decide +kernel
theorem dL_law_981 : decode cL_law 981 = .ok (.aload_n 2, 1) := by decide +kernel
theorem dL_law_982 : decode cL_law 982 = .ok (.aload_n 0, 1) := by decide +kernel
theorem dL_law_983 : decode cL_law 983 = .ok (.iload 4, 2) := by decide +kernel
theorem dL_law_985 : decode cL_law 985 = .ok (.iconst 1, 1) := by decide +kernel
theorem dL_law_986 : decode cL_law 986 = .ok (.iadd, 1) := by decide +kernel
theorem dL_law_987 : decode cL_law 987 = .ok (.iaload, 1) := by decide +kernel
theorem dL_law_988 : decode cL_law 988 = .ok (.aload_n 0, 1) := by decide +kernel
theorem dL_law_989 : decode cL_law 989 = .ok (.iload 4, 2) := by decide +kernel
theorem dL_law_991 : decode cL_law 991 = .ok (.iconst 2, 1) := by decide +kernel
theorem dL_law_992 : decode cL_law 992 = .ok (.iadd, 1) := by decide +kernel
theorem dL_law_993 : decode cL_law 993 = .ok (.iaload, 1) := by decide +kernel
theorem dL_law_994 : decode cL_law 994 = .ok (.invokevirtual 143, 3) := by decide +kernel
theorem dL_law_997 : decode cL_law 997 = .ok (.istore 6, 2) := by decide +kernel
theorem dL_law_999 : decode cL_law 999 = .ok (.aload_n 2, 1) := by decide +kernel
theorem dL_law_1000 : decode cL_law 1000 = .ok (.invokevirtual 90, 3) := by decide +kernel
theorem dL_law_1003 : decode cL_law 1003 = .ok (.iload 5, 2) := by decide +kernel
theorem dL_law_1005 : decode cL_law 1005 = .ok (.if_icmp .eq 5, 3) := by decide +kernel
theorem dL_law_1008 : decode cL_law 1008 = .ok (.iconst 0, 1) := by decide +kernel
theorem dL_law_1009 : decode cL_law 1009 = .ok (.ireturn, 1) := by decide +kernel
theorem dL_law_1010 : decode cL_law 1010 = .ok (.iload 5, 2) := by decide +kernel
theorem dL_law_1012 : decode cL_law 1012 = .ok (.ifCond .ne 22, 3) := by decide +kernel
theorem dL_law_1015 : decode cL_law 1015 = .ok (.aload_n 3, 1) := by decide +kernel
theorem dL_law_1016 : decode cL_law 1016 = .ok (.iconst 0, 1) := by decide +kernel
theorem dL_law_1017 : decode cL_law 1017 = .ok (.laload, 1) := by decide +kernel
theorem dL_law_1018 : decode cL_law 1018 = .ok (.iload 6, 2) := by decide +kernel
theorem dL_law_1020 : decode cL_law 1020 = .ok (.ifCond .eq 7, 3) := by decide +kernel
theorem dL_law_1023 : decode cL_law 1023 = .ok (.lconst 1, 1) := by decide +kernel
theorem dL_law_1024 : decode cL_law 1024 = .ok (.goto 4, 3) := by decide +kernel
theorem dL_law_1027 : decode cL_law 1027 = .ok (.lconst 0, 1) := by decide +kernel
theorem dL_law_1028 : decode cL_law 1028 = .ok (.lcmp, 1) := by decide +kernel
theorem dL_law_1029 : decode cL_law 1029 = .ok (.ifCond .eq 5, 3) := by decide +kernel
theorem dL_law_1032 : decode cL_law 1032 = .ok (.iconst 0, 1) := by decide +kernel
theorem dL_law_1033 : decode cL_law 1033 = .ok (.ireturn, 1) := by decide +kernel
theorem dL_law_1034 : decode cL_law 1034 = .ok (.goto 108, 3) := by decide +kernel
theorem dL_law_1037 : decode cL_law 1037 = .ok (.aload_n 1, 1) := by decide +kernel
theorem dL_law_1038 : decode cL_law 1038 = .ok (.invokevirtual 144, 3) := by decide +kernel
theorem dL_law_1041 : decode cL_law 1041 = .ok (.aload_n 2, 1) := by decide +kernel
theorem dL_law_1042 : decode cL_law 1042 = .ok (.invokevirtual 147, 3) := by decide +kernel
theorem dL_law_1045 : decode cL_law 1045 = .ok (.if_icmp .eq 97, 3) := by decide +kernel
theorem dL_law_1048 : decode cL_law 1048 = .ok (.iconst 0, 1) := by decide +kernel
theorem dL_law_1049 : decode cL_law 1049 = .ok (.ireturn, 1) := by decide +kernel
theorem dL_law_1050 : decode cL_law 1050 = .ok (.aload_n 1, 1) := by decide +kernel
theorem dL_law_1051 : decode cL_law 1051 = .ok (.aload_n 0, 1) := by decide +kernel
theorem dL_law_1052 : decode cL_law 1052 = .ok (.iload 4, 2) := by decide +kernel
theorem dL_law_1054 : decode cL_law 1054 = .ok (.iconst 1, 1) := by decide +kernel
theorem dL_law_1055 : decode cL_law 1055 = .ok (.iadd, 1) := by decide +kernel
theorem dL_law_1056 : decode cL_law 1056 = .ok (.iaload, 1) := by decide +kernel
theorem dL_law_1057 : decode cL_law 1057 = .ok (.invokevirtual 148, 3) := by decide +kernel
theorem dL_law_1060 : decode cL_law 1060 = .ok (.aload_n 2, 1) := by decide +kernel
theorem dL_law_1061 : decode cL_law 1061 = .ok (.aload_n 0, 1) := by decide +kernel
theorem dL_law_1062 : decode cL_law 1062 = .ok (.iload 4, 2) := by decide +kernel
theorem dL_law_1064 : decode cL_law 1064 = .ok (.iconst 1, 1) := by decide +kernel
theorem dL_law_1065 : decode cL_law 1065 = .ok (.iadd, 1) := by decide +kernel
theorem dL_law_1066 : decode cL_law 1066 = .ok (.iaload, 1) := by decide +kernel
theorem dL_law_1067 : decode cL_law 1067 = .ok (.invokevirtual 151, 3) := by decide +kernel
theorem dL_law_1070 : decode cL_law 1070 = .ok (.if_icmp .eq 72, 3) := by decide +kernel
theorem dL_law_1073 : decode cL_law 1073 = .ok (.iconst 0, 1) := by decide +kernel
theorem dL_law_1074 : decode cL_law 1074 = .ok (.ireturn, 1) := by decide +kernel
theorem dL_law_1075 : decode cL_law 1075 = .ok (.aload_n 1, 1) := by decide +kernel
theorem dL_law_1076 : decode cL_law 1076 = .ok (.aload_n 0, 1) := by decide +kernel
theorem dL_law_1077 : decode cL_law 1077 = .ok (.iload 4, 2) := by decide +kernel
theorem dL_law_1079 : decode cL_law 1079 = .ok (.iconst 1, 1) := by decide +kernel
theorem dL_law_1080 : decode cL_law 1080 = .ok (.iadd, 1) := by decide +kernel
theorem dL_law_1081 : decode cL_law 1081 = .ok (.iaload, 1) := by decide +kernel
theorem dL_law_1082 : decode cL_law 1082 = .ok (.aload_n 0, 1) := by decide +kernel
theorem dL_law_1083 : decode cL_law 1083 = .ok (.iload 4, 2) := by decide +kernel
theorem dL_law_1085 : decode cL_law 1085 = .ok (.iconst 2, 1) := by decide +kernel
theorem dL_law_1086 : decode cL_law 1086 = .ok (.iadd, 1) := by decide +kernel
theorem dL_law_1087 : decode cL_law 1087 = .ok (.iaload, 1) := by decide +kernel
theorem dL_law_1088 : decode cL_law 1088 = .ok (.aload_n 3, 1) := by decide +kernel
theorem dL_law_1089 : decode cL_law 1089 = .ok (.invokestatic 152, 3) := by decide +kernel
theorem dL_law_1092 : decode cL_law 1092 = .ok (.istore 5, 2) := by decide +kernel
theorem dL_law_1094 : decode cL_law 1094 = .ok (.aload_n 2, 1) := by decide +kernel
theorem dL_law_1095 : decode cL_law 1095 = .ok (.aload_n 0, 1) := by decide +kernel
theorem dL_law_1096 : decode cL_law 1096 = .ok (.iload 4, 2) := by decide +kernel
theorem dL_law_1098 : decode cL_law 1098 = .ok (.iconst 1, 1) := by decide +kernel
theorem dL_law_1099 : decode cL_law 1099 = .ok (.iadd, 1) := by decide +kernel
theorem dL_law_1100 : decode cL_law 1100 = .ok (.iaload, 1) := by decide +kernel
theorem dL_law_1101 : decode cL_law 1101 = .ok (.aload_n 0, 1) := by decide +kernel
theorem dL_law_1102 : decode cL_law 1102 = .ok (.iload 4, 2) := by decide +kernel
theorem dL_law_1104 : decode cL_law 1104 = .ok (.iconst 2, 1) := by decide +kernel
theorem dL_law_1105 : decode cL_law 1105 = .ok (.iadd, 1) := by decide +kernel
theorem dL_law_1106 : decode cL_law 1106 = .ok (.iaload, 1) := by decide +kernel
theorem dL_law_1107 : decode cL_law 1107 = .ok (.invokevirtual 154, 3) := by decide +kernel
theorem dL_law_1110 : decode cL_law 1110 = .ok (.lstore 6, 2) := by decide +kernel
theorem dL_law_1112 : decode cL_law 1112 = .ok (.aload_n 2, 1) := by decide +kernel
theorem dL_law_1113 : decode cL_law 1113 = .ok (.invokevirtual 90, 3) := by decide +kernel
theorem dL_law_1116 : decode cL_law 1116 = .ok (.iload 5, 2) := by decide +kernel
theorem dL_law_1118 : decode cL_law 1118 = .ok (.if_icmp .eq 5, 3) := by decide +kernel
theorem dL_law_1121 : decode cL_law 1121 = .ok (.iconst 0, 1) := by decide +kernel
theorem dL_law_1122 : decode cL_law 1122 = .ok (.ireturn, 1) := by decide +kernel
theorem dL_law_1123 : decode cL_law 1123 = .ok (.iload 5, 2) := by decide +kernel
theorem dL_law_1125 : decode cL_law 1125 = .ok (.ifCond .ne 14, 3) := by decide +kernel
theorem dL_law_1128 : decode cL_law 1128 = .ok (.aload_n 3, 1) := by decide +kernel
theorem dL_law_1129 : decode cL_law 1129 = .ok (.iconst 0, 1) := by decide +kernel
theorem dL_law_1130 : decode cL_law 1130 = .ok (.laload, 1) := by decide +kernel
theorem dL_law_1131 : decode cL_law 1131 = .ok (.lload 6, 2) := by decide +kernel
theorem dL_law_1133 : decode cL_law 1133 = .ok (.lcmp, 1) := by decide +kernel
theorem dL_law_1134 : decode cL_law 1134 = .ok (.ifCond .eq 5, 3) := by decide +kernel
theorem dL_law_1137 : decode cL_law 1137 = .ok (.iconst 0, 1) := by decide +kernel
theorem dL_law_1138 : decode cL_law 1138 = .ok (.ireturn, 1) := by decide +kernel
theorem dL_law_1139 : decode cL_law 1139 = .ok (.goto 3, 3) := by decide +kernel
theorem dL_law_1142 : decode cL_law 1142 = .ok (.iinc 4 4, 3) := by decide +kernel
theorem dL_law_1145 : decode cL_law 1145 = .ok (.goto (-1122), 3) := by decide +kernel
theorem dL_law_1148 : decode cL_law 1148 = .ok (.iconst 1, 1) := by decide +kernel
theorem dL_law_1149 : decode cL_law 1149 = .ok (.ireturn, 1) := by decide +kernel
end
section
/-! The memory as mathematics: a value is a kind (0 nil, 1 number, 2 pair, 3 moved) and a body; a half is its codes c, its contents w, how many words are used u. -/
abbrev lm_V : Type := Nat × Int
def lm_cell (w : Nat → lm_V) (q : Nat) : Nat := if (w q).1 = 3 then (w q).2.toNat else q
def lm_rest (c : Nat → Nat) (w : Nat → lm_V) (p : Nat) : lm_V := if c p = 0 then (2, ((p + 1 : Nat) : Int)) else if c p = 2 then w (p + 1) else (0, 0)
/-- the cell that a pair's value leads to -/
def lm_to (w : Nat → lm_V) (v : lm_V) : Nat := lm_cell w v.2.toNat
def lm_ok (c : Nat → Nat) (u : Nat) (v : lm_V) : Prop := (v.1 = 0 ∧ v.2 = 0) ∨ (v.1 = 1 ∧ -288230376151711744 ≤ v.2 ∧ v.2 ≤ 288230376151711743) ∨ (v.1 = 2 ∧ ∃ q : Nat, v.2 = (q : Int) ∧ q < u ∧ c q ≠ 3)
def lm_mv (c : Nat → Nat) (w : Nat → lm_V) (u p : Nat) : Prop := (w p).1 = 3 ∧ c p < 2 ∧ ∃ q : Nat, (w p).2 = (q : Int) ∧ p < q ∧ q < u ∧ c q = 2 ∧ (w q).1 ≠ 3 ∧ ∀ j, q = j + 1 → c j ≠ 0
def lm_wf (c : Nat → Nat) (w : Nat → lm_V) (u : Nat) : Prop :=
  u ≤ 120 ∧ (∀ p, p < u → c p ≤ 3) ∧ (∀ p, p < u → c p = 0 → p + 1 < u ∧ c (p + 1) ≠ 3) ∧ (∀ p, p < u → c p = 2 → p + 1 < u ∧ c (p + 1) = 3) ∧
  (∀ p, p < u → c p = 3 → ∃ j, p = j + 1 ∧ c j = 2) ∧ (∀ p, p < u → lm_ok c u (w p) ∨ lm_mv c w u p) ∧
  (∀ p p', p < u → p' < u → (w p).1 = 3 → (w p').1 = 3 → (w p).2 = (w p').2 → p = p')
/-- a cell that is no longer passed through -/
def lm_cl (c : Nat → Nat) (w : Nat → lm_V) (u p : Nat) : Prop := p < u ∧ c p ≠ 3 ∧ (w p).1 ≠ 3
theorem lm_ok_kind {c : Nat → Nat} {u : Nat} {v : lm_V} (h : lm_ok c u v) : v.1 < 3 := by
  rcases h with h | h | h <;> omega
theorem lm_cell_cl {c : Nat → Nat} {w : Nat → lm_V} {u q : Nat} (h : lm_wf c w u) (hq : q < u) (hc : c q ≠ 3) : lm_cl c w u (lm_cell w q) := by
  unfold lm_cell lm_cl
  by_cases h3 : (w q).1 = 3
  · rw [if_pos h3]
    rcases h.2.2.2.2.2.1 q hq with h1 | h1
    · have := lm_ok_kind h1; omega
    · obtain ⟨-, -, x, hx, -, h4, h5, h6, -⟩ := h1
      rw [hx]
      simp only [Int.toNat_natCast]
      exact ⟨h4, by omega, h6⟩
  · rw [if_neg h3]; exact ⟨hq, hc, h3⟩
theorem lm_to_cl {c : Nat → Nat} {w : Nat → lm_V} {u : Nat} {v : lm_V} (h : lm_wf c w u) (hv : lm_ok c u v) (hk : v.1 = 2) : lm_cl c w u (lm_to w v) := by
  rcases hv with h1 | h1 | ⟨-, q, h1, h2, h3⟩
  · omega
  · omega
  · unfold lm_to; rw [h1]; simp only [Int.toNat_natCast]; exact lm_cell_cl h h2 h3
theorem lm_first_ok {c : Nat → Nat} {w : Nat → lm_V} {u p : Nat} (h : lm_wf c w u) (hp : lm_cl c w u p) : lm_ok c u (w p) := by
  rcases h.2.2.2.2.2.1 p hp.1 with h1 | h1
  · exact h1
  · exact absurd h1.1 hp.2.2
theorem lm_second_ok {c : Nat → Nat} {w : Nat → lm_V} {u p : Nat} (h : lm_wf c w u) (hp : p < u) (hc : c p = 2) : lm_ok c u (w (p + 1)) := by
  have h2 := h.2.2.2.1 p hp hc
  rcases h.2.2.2.2.2.1 (p + 1) h2.1 with h1 | h1
  · exact h1
  · have := h1.2.1; omega
theorem lm_rest_ok {c : Nat → Nat} {w : Nat → lm_V} {u p : Nat} (h : lm_wf c w u) (hp : lm_cl c w u p) : lm_ok c u (lm_rest c w p) := by
  unfold lm_rest
  by_cases h0 : c p = 0
  · rw [if_pos h0]
    have := h.2.2.1 p hp.1 h0
    exact Or.inr (Or.inr ⟨rfl, p + 1, rfl, this.1, this.2⟩)
  · rw [if_neg h0]
    by_cases h2 : c p = 2
    · rw [if_pos h2]; exact lm_second_ok h hp.1 h2
    · rw [if_neg h2]; exact Or.inl ⟨rfl, rfl⟩
/-- the pairs that can be reached -/
def lm_enl (w : Nat → lm_V) (L : List Nat) (v : lm_V) : List Nat := if v.1 = 2 ∧ lm_to w v ∉ L then L ++ [lm_to w v] else L
def lm_bfs (c : Nat → Nat) (w : Nat → lm_V) : Nat → Nat → List Nat → List Nat
  | 0, _, L => L
  | n + 1, i, L => if i < L.length then lm_bfs c w n (i + 1) (lm_enl w (lm_enl w L (w (L.getD i 0))) (lm_rest c w (L.getD i 0))) else L
def lm_list0 (w : Nat → lm_V) (rt : Nat → lm_V) : Nat → List Nat
  | 0 => []
  | n + 1 => lm_enl w (lm_list0 w rt n) (rt n)
def lm_list (c : Nat → Nat) (w : Nat → lm_V) (rt : Nat → lm_V) : List Nat := lm_bfs c w 120 0 (lm_list0 w rt 10)
def lm_gd (c : Nat → Nat) (w : Nat → lm_V) (u : Nat) (L : List Nat) : Prop := L.Nodup ∧ ∀ p ∈ L, lm_cl c w u p
theorem lm_gd_len {c : Nat → Nat} {w : Nat → lm_V} {u : Nat} {L : List Nat} (h : lm_gd c w u L) : L.length ≤ u := by
  have := List.Nodup.length_le_of_subset h.1 (l₂ := List.range u) (fun p hp => List.mem_range.mpr (h.2 p hp).1)
  simpa using this
theorem lm_enl_sub {w : Nat → lm_V} {L : List Nat} {v : lm_V} : ∀ p ∈ L, p ∈ lm_enl w L v := by
  intro p hp
  unfold lm_enl
  split
  · exact List.mem_append_left _ hp
  · exact hp
theorem lm_enl_in {w : Nat → lm_V} {L : List Nat} {v : lm_V} (hv : v.1 = 2) : lm_to w v ∈ lm_enl w L v := by
  unfold lm_enl
  by_cases h : lm_to w v ∈ L
  · rw [if_neg (fun q => q.2 h)]; exact h
  · rw [if_pos ⟨hv, h⟩]; simp
theorem lm_enl_gd {c : Nat → Nat} {w : Nat → lm_V} {u : Nat} {L : List Nat} {v : lm_V} (h : lm_wf c w u) (hL : lm_gd c w u L) (hv : lm_ok c u v) : lm_gd c w u (lm_enl w L v) := by
  unfold lm_enl
  split
  · rename_i hk
    refine ⟨?_, fun p hp => ?_⟩
    · rw [List.nodup_append]
      refine ⟨hL.1, by simp, ?_⟩
      intro a ha b hb
      simp only [List.mem_singleton] at hb
      subst hb
      intro e
      exact hk.2 (e ▸ ha)
    · rcases List.mem_append.mp hp with h1 | h1
      · exact hL.2 p h1
      · rw [List.mem_singleton] at h1; subst h1; exact lm_to_cl h hv hk.1
  · exact hL
theorem lm_enl_pre {w : Nat → lm_V} {L : List Nat} {v : lm_V} : ∃ M, lm_enl w L v = L ++ M := by
  unfold lm_enl
  split
  · exact ⟨_, rfl⟩
  · exact ⟨[], by simp⟩
theorem lm_enl_getD {w : Nat → lm_V} {L : List Nat} {v : lm_V} {j : Nat} (hj : j < L.length) : (lm_enl w L v).getD j 0 = L.getD j 0 := by
  obtain ⟨M, hM⟩ := lm_enl_pre (w := w) (L := L) (v := v)
  rw [hM]; simp [List.getD_eq_getElem?_getD, List.getElem?_append_left hj]
theorem lm_enl_len {w : Nat → lm_V} {L : List Nat} {v : lm_V} : L.length ≤ (lm_enl w L v).length := by
  obtain ⟨M, hM⟩ := lm_enl_pre (w := w) (L := L) (v := v)
  rw [hM]; simp
/-- the first and the rest of p, if they are pairs, are in L -/
def lm_cs (c : Nat → Nat) (w : Nat → lm_V) (L : List Nat) (p : Nat) : Prop := ((w p).1 = 2 → lm_to w (w p) ∈ L) ∧ ((lm_rest c w p).1 = 2 → lm_to w (lm_rest c w p) ∈ L)
theorem lm_bfs_spec {c : Nat → Nat} {w : Nat → lm_V} {u : Nat} (h : lm_wf c w u) : ∀ (n i : Nat) (L : List Nat), lm_gd c w u L → (∀ j, j < i → j < L.length → lm_cs c w L (L.getD j 0)) → 120 ≤ i + n →
    lm_gd c w u (lm_bfs c w n i L) ∧ (∀ p ∈ L, p ∈ lm_bfs c w n i L) ∧ ∀ p ∈ lm_bfs c w n i L, lm_cs c w (lm_bfs c w n i L) p := by
  intro n
  induction n with
  | zero =>
    intro i L hL hc hn
    refine ⟨hL, fun p hp => hp, fun p hp => ?_⟩
    have hp : p ∈ L := hp
    show lm_cs c w L p
    obtain ⟨j, hj, e⟩ := List.getElem_of_mem hp
    have h1 := lm_gd_len hL
    have h2 := h.1
    have := hc j (by omega) hj
    rw [List.getD_eq_getElem?_getD, List.getElem?_eq_getElem hj] at this
    simp only [Option.getD_some] at this
    rw [e] at this
    exact this
  | succ n ih =>
    intro i L hL hc hn
    unfold lm_bfs
    by_cases hi : i < L.length
    · rw [if_pos hi]
      have hm : L.getD i 0 ∈ L := by
        rw [List.getD_eq_getElem?_getD, List.getElem?_eq_getElem hi]; simp
      have hcl := hL.2 _ hm
      have g1 := lm_enl_gd h hL (lm_first_ok h hcl)
      have g2 := lm_enl_gd h g1 (lm_rest_ok h hcl)
      obtain ⟨a1, a2, a3⟩ := ih (i + 1) (lm_enl w (lm_enl w L (w (L.getD i 0))) (lm_rest c w (L.getD i 0))) g2 (fun j hj hjl => by
        by_cases hji : j < L.length
        · rw [lm_enl_getD (Nat.lt_of_lt_of_le hji lm_enl_len), lm_enl_getD hji]
          by_cases hjj : j < i
          · have := hc j hjj hji
            exact ⟨fun q => lm_enl_sub _ (lm_enl_sub _ (this.1 q)), fun q => lm_enl_sub _ (lm_enl_sub _ (this.2 q))⟩
          · have hji2 : j = i := by omega
            subst hji2
            exact ⟨fun q => lm_enl_sub _ (lm_enl_in q), fun q => lm_enl_in q⟩
        · omega) (by omega)
      exact ⟨a1, fun p hp => a2 p (lm_enl_sub _ (lm_enl_sub _ hp)), a3⟩
    · rw [if_neg hi]
      refine ⟨hL, fun p hp => hp, fun p hp => ?_⟩
      obtain ⟨j, hj, e⟩ := List.getElem_of_mem hp
      have := hc j (by omega) hj
      rw [List.getD_eq_getElem?_getD, List.getElem?_eq_getElem hj] at this
      simp only [Option.getD_some] at this
      rw [e] at this
      exact this
theorem lm_list0_spec {c : Nat → Nat} {w : Nat → lm_V} {u : Nat} {rt : Nat → lm_V} (h : lm_wf c w u) : ∀ n, (∀ r, r < n → lm_ok c u (rt r)) → lm_gd c w u (lm_list0 w rt n) ∧ ∀ r, r < n → (rt r).1 = 2 → lm_to w (rt r) ∈ lm_list0 w rt n := by
  intro n
  induction n with
  | zero => intro _; exact ⟨⟨List.nodup_nil, fun p hp => (by cases hp)⟩, fun r hr => by omega⟩
  | succ n ih =>
    intro hr
    obtain ⟨h1, h2⟩ := ih (fun r hr' => hr r (by omega))
    refine ⟨lm_enl_gd h h1 (hr n (by omega)), fun r hr' hk => ?_⟩
    by_cases e : r = n
    · subst e; exact lm_enl_in hk
    · exact lm_enl_sub _ (h2 r (by omega) hk)
theorem lm_list_spec {c : Nat → Nat} {w : Nat → lm_V} {u : Nat} {rt : Nat → lm_V} (h : lm_wf c w u) (hr : ∀ r, r < 10 → lm_ok c u (rt r)) :
    lm_gd c w u (lm_list c w rt) ∧ (∀ r, r < 10 → (rt r).1 = 2 → lm_to w (rt r) ∈ lm_list c w rt) ∧ ∀ p ∈ lm_list c w rt, lm_cs c w (lm_list c w rt) p := by
  obtain ⟨h1, h2⟩ := lm_list0_spec (rt := rt) h 10 hr
  obtain ⟨a1, a2, a3⟩ := lm_bfs_spec h 120 0 (lm_list0 w rt 10) h1 (fun j hj => by omega) (by omega)
  exact ⟨a1, fun r hr' hk => a2 _ (h2 r hr' hk), a3⟩
end
section
/-! Laying: where a cell is laid (lay), and the words of the other half (O) -/
abbrev lm_O : Type := List (Nat × lm_V)
abbrev lm_S : Type := (Nat → Option Nat) × lm_O
def lm_mark (lay : Nat → Option Nat) (p n : Nat) : Nat → Option Nat := fun q => if q = p then some n else lay q
/-- one cell is laid; the cell that is to lie behind it -/
def lm_lay (c : Nat → Nat) (w : Nat → lm_V) (s : lm_S) (p : Nat) : lm_S × Option Nat :=
  if (lm_rest c w p).1 = 0 then ((lm_mark s.1 p s.2.length, s.2 ++ [(1, w p)]), none)
  else if (lm_rest c w p).1 = 2 ∧ lm_mark s.1 p s.2.length (lm_to w (lm_rest c w p)) = none then ((lm_mark s.1 p s.2.length, s.2 ++ [(0, w p)]), some (lm_to w (lm_rest c w p)))
  else ((lm_mark s.1 p s.2.length, s.2 ++ [(2, w p), (3, lm_rest c w p)]), none)
def lm_spine (c : Nat → Nat) (w : Nat → lm_V) : Nat → lm_S → Nat → lm_S
  | 0, s, _ => s
  | n + 1, s, p => match (lm_lay c w s p).2 with
    | none => (lm_lay c w s p).1
    | some q => lm_spine c w n (lm_lay c w s p).1 q
/-- it is the rest of a listed pair -/
def lm_isR (c : Nat → Nat) (w : Nat → lm_V) (L : List Nat) (p : Nat) : Prop := ∃ y ∈ L, (lm_rest c w y).1 = 2 ∧ lm_to w (lm_rest c w y) = p
def lm_isRb (c : Nat → Nat) (w : Nat → lm_V) (L : List Nat) (p : Nat) : Bool := L.any (fun y => decide ((lm_rest c w y).1 = 2 ∧ lm_to w (lm_rest c w y) = p))
theorem lm_isRb_iff {c : Nat → Nat} {w : Nat → lm_V} {L : List Nat} {p : Nat} : lm_isRb c w L p = true ↔ lm_isR c w L p := by
  unfold lm_isRb lm_isR
  simp [List.any_eq_true]
/-- hd: heads alone -/
def lm_try (c : Nat → Nat) (w : Nat → lm_V) (L : List Nat) (hd : Bool) (s : lm_S) (p : Nat) : lm_S :=
  if s.1 p = none ∧ ¬ (hd = true ∧ lm_isRb c w L p = true) then lm_spine c w 120 s p else s
def lm_phase (c : Nat → Nat) (w : Nat → lm_V) (L : List Nat) (hd : Bool) (s : lm_S) : Nat → lm_S
  | 0 => s
  | n + 1 => lm_try c w L hd (lm_phase c w L hd s n) (L.getD n 0)
def lm_laid (c : Nat → Nat) (w : Nat → lm_V) (L : List Nat) : lm_S := lm_phase c w L false (lm_phase c w L true (fun _ => none, []) L.length) L.length
/-- a value in the other half -/
def lm_tr (w : Nat → lm_V) (lay : Nat → Option Nat) (v : lm_V) : lm_V := if v.1 = 2 then (2, (((lay (lm_to w v)).getD 0 : Nat) : Int)) else v
/-- the words are well formed; the last may wait for the next -/
def lm_wO (O : lm_O) (pend : Prop) : Prop :=
  (∀ n, n < O.length → (O.getD n (0, 0, 0)).1 ≤ 3) ∧
  (∀ n, n < O.length → (O.getD n (0, 0, 0)).1 = 0 → (n + 1 < O.length ∧ (O.getD (n + 1) (0, 0, 0)).1 ≠ 3) ∨ (pend ∧ n + 1 = O.length)) ∧
  (∀ n, n < O.length → (O.getD n (0, 0, 0)).1 = 2 → n + 1 < O.length ∧ (O.getD (n + 1) (0, 0, 0)).1 = 3) ∧
  (∀ n, n < O.length → (O.getD n (0, 0, 0)).1 = 3 → ∃ j, n = j + 1 ∧ (O.getD j (0, 0, 0)).1 = 2)
/-- what a value of O is: good in the old half, its pair listed -/
def lm_vO (c : Nat → Nat) (w : Nat → lm_V) (u : Nat) (L : List Nat) (O : lm_O) : Prop := ∀ x ∈ O, lm_ok c u x.2 ∧ (x.2.1 = 2 → lm_to w x.2 ∈ L)
def lm_nil (c : Nat → Nat) (w : Nat → lm_V) (p : Nat) : Bool := decide ((lm_rest c w p).1 = 0)
/-- D: the cells laid so far; k: how many heads there were; pend: the cell that comes next -/
def lm_I (c : Nat → Nat) (w : Nat → lm_V) (u : Nat) (L : List Nat) (s : lm_S) (D : List Nat) (k : Nat) (pend : Option Nat) : Prop :=
  D.Nodup ∧ (∀ p, p ∈ D ↔ s.1 p ≠ none) ∧ (∀ p ∈ D, p ∈ L) ∧
  (∀ p ∈ D, (lm_rest c w p).1 = 2 → lm_to w (lm_rest c w p) ∈ D ∨ pend = some (lm_to w (lm_rest c w p))) ∧
  (s.2.length + (D.filter (lm_nil c w)).length + (if pend = none then 0 else 1) = D.length + k) ∧
  (∀ p n, s.1 p = some n → n < s.2.length ∧ (s.2.getD n (0, 0, 0)).1 ≠ 3) ∧ lm_wO s.2 (pend ≠ none) ∧ lm_vO c w u L s.2
theorem lm_mark_eq {lay : Nat → Option Nat} {p n q : Nat} : lm_mark lay p n q = none ↔ q ≠ p ∧ lay q = none := by
  unfold lm_mark
  by_cases h : q = p
  · simp [h]
  · simp [h]
theorem lm_getD_l {O M : lm_O} {n : Nat} {d : Nat × lm_V} (h : n < O.length) : (O ++ M).getD n d = O.getD n d := by
  simp [List.getD_eq_getElem?_getD, List.getElem?_append_left h]
theorem lm_getD_r {O M : lm_O} {n : Nat} {d : Nat × lm_V} (h : O.length ≤ n) : (O ++ M).getD n d = M.getD (n - O.length) d := by
  simp [List.getD_eq_getElem?_getD, List.getElem?_append_right h]
theorem lm_wO_1 {O : lm_O} {P Q : Prop} {v : lm_V} (k : Nat) (hk : k = 0 ∧ Q ∨ k = 1) (h : lm_wO O P) : lm_wO (O ++ [(k, v)]) Q := by
  obtain ⟨h1, h2, h3, h4⟩ := h
  have hl : (O ++ [(k, v)]).length = O.length + 1 := by simp
  have hlast : (O ++ [(k, v)]).getD O.length (0, 0, 0) = (k, v) := by rw [lm_getD_r (Nat.le_refl _)]; simp
  refine ⟨fun n hn => ?_, fun n hn => ?_, fun n hn => ?_, fun n hn => ?_⟩
  · by_cases e : n < O.length
    · rw [lm_getD_l e]; exact h1 n e
    · have : n = O.length := by omega
      subst this; rw [hlast]; rcases hk with ⟨a, -⟩ | a <;> simp [a]
  · by_cases e : n < O.length
    · rw [lm_getD_l e]
      intro h0
      rcases h2 n e h0 with ⟨a, b⟩ | ⟨-, b⟩
      · exact Or.inl ⟨by omega, by rw [lm_getD_l a]; exact b⟩
      · refine Or.inl ⟨by omega, ?_⟩
        rw [b, hlast]; rcases hk with ⟨a, -⟩ | a <;> simp [a]
    · have : n = O.length := by omega
      subst this; rw [hlast]
      intro h0
      rcases hk with ⟨-, a⟩ | a
      · exact Or.inr ⟨a, by omega⟩
      · simp [a] at h0
  · by_cases e : n < O.length
    · rw [lm_getD_l e]
      intro h0
      obtain ⟨a, b⟩ := h3 n e h0
      exact ⟨by omega, by rw [lm_getD_l a]; exact b⟩
    · have : n = O.length := by omega
      subst this; rw [hlast]
      intro h0
      rcases hk with ⟨a, -⟩ | a <;> simp [a] at h0
  · by_cases e : n < O.length
    · rw [lm_getD_l e]
      intro h0
      obtain ⟨j, a, b⟩ := h4 n e h0
      exact ⟨j, a, by rw [lm_getD_l (by omega)]; exact b⟩
    · have : n = O.length := by omega
      subst this; rw [hlast]
      intro h0
      rcases hk with ⟨a, -⟩ | a <;> simp [a] at h0
theorem lm_wO_2 {O : lm_O} {P Q : Prop} {v r : lm_V} (h : lm_wO O P) : lm_wO (O ++ [(2, v), (3, r)]) Q := by
  obtain ⟨h1, h2, h3, h4⟩ := h
  have hl : (O ++ [(2, v), (3, r)]).length = O.length + 2 := by simp
  have hA : (O ++ [(2, v), (3, r)]).getD O.length (0, 0, 0) = (2, v) := by rw [lm_getD_r (Nat.le_refl _)]; simp
  have hB : (O ++ [(2, v), (3, r)]).getD (O.length + 1) (0, 0, 0) = (3, r) := by rw [lm_getD_r (by omega)]; simp
  refine ⟨fun n hn => ?_, fun n hn => ?_, fun n hn => ?_, fun n hn => ?_⟩
  · rcases (show n < O.length ∨ n = O.length ∨ n = O.length + 1 by omega) with e | e | e
    · rw [lm_getD_l e]; exact h1 n e
    · subst e; rw [hA]; simp
    · subst e; rw [hB]; simp
  · rcases (show n < O.length ∨ n = O.length ∨ n = O.length + 1 by omega) with e | e | e
    · rw [lm_getD_l e]
      intro h0
      rcases h2 n e h0 with ⟨a, b⟩ | ⟨-, b⟩
      · exact Or.inl ⟨by omega, by rw [lm_getD_l a]; exact b⟩
      · exact Or.inl ⟨by omega, by rw [b, hA]; simp⟩
    · subst e; rw [hA]; intro h0; simp at h0
    · subst e; rw [hB]; intro h0; simp at h0
  · rcases (show n < O.length ∨ n = O.length ∨ n = O.length + 1 by omega) with e | e | e
    · rw [lm_getD_l e]
      intro h0
      obtain ⟨a, b⟩ := h3 n e h0
      exact ⟨by omega, by rw [lm_getD_l a]; exact b⟩
    · subst e; intro _; exact ⟨by omega, by rw [hB]⟩
    · subst e; rw [hB]; intro h0; simp at h0
  · rcases (show n < O.length ∨ n = O.length ∨ n = O.length + 1 by omega) with e | e | e
    · rw [lm_getD_l e]
      intro h0
      obtain ⟨j, a, b⟩ := h4 n e h0
      exact ⟨j, a, by rw [lm_getD_l (by omega)]; exact b⟩
    · subst e; rw [hA]; intro h0; simp at h0
    · subst e; intro _; exact ⟨O.length, rfl, by rw [hA]⟩
theorem lm_vO_app {c : Nat → Nat} {w : Nat → lm_V} {u : Nat} {L : List Nat} {O M : lm_O} (h : lm_vO c w u L O) (h2 : lm_vO c w u L M) : lm_vO c w u L (O ++ M) := by
  intro x hx
  rcases List.mem_append.mp hx with a | a
  · exact h x a
  · exact h2 x a
/-- one cell is laid -/
theorem lm_lay_I {c : Nat → Nat} {w : Nat → lm_V} {u : Nat} {L : List Nat} (hw : lm_wf c w u) (hL : lm_gd c w u L) (hcl : ∀ p ∈ L, lm_cs c w L p) {s : lm_S} {D : List Nat} {k p : Nat} (h : lm_I c w u L s D k (some p)) (hp : s.1 p = none) (hpL : p ∈ L) :
    lm_I c w u L (lm_lay c w s p).1 (D ++ [p]) k (lm_lay c w s p).2 ∧ ∀ q, (lm_lay c w s p).2 = some q → (lm_lay c w s p).1.1 q = none ∧ q ∈ L := by
  obtain ⟨i1, i2, i3, i4, i5, i6, i7, i8⟩ := h
  have hpD : p ∉ D := fun q => (i2 p).mp q hp
  have n1 : (D ++ [p]).Nodup := by
    rw [List.nodup_append]
    refine ⟨i1, by simp, ?_⟩
    intro a ha b hb
    simp only [List.mem_singleton] at hb
    subst hb
    intro e
    exact hpD (e ▸ ha)
  have n2 : ∀ q, q ∈ D ++ [p] ↔ lm_mark s.1 p s.2.length q ≠ none := by
    intro q
    rw [List.mem_append, List.mem_singleton, i2 q, Ne, Ne, lm_mark_eq]
    by_cases e : q = p <;> simp [e]
  have n3 : ∀ q ∈ D ++ [p], q ∈ L := by
    intro q hq
    rcases List.mem_append.mp hq with a | a
    · exact i3 q a
    · rw [List.mem_singleton] at a; subst a; exact hpL
  have n4 : ∀ q ∈ D, (lm_rest c w q).1 = 2 → lm_to w (lm_rest c w q) ∈ D ++ [p] := by
    intro q hq hk
    rcases i4 q hq hk with a | a
    · exact List.mem_append_left _ a
    · rw [← Option.some.inj a]; simp
  have n6 : ∀ (M : lm_O), (M.getD 0 (0, 0, 0)).1 ≠ 3 → 0 < M.length → ∀ q n, lm_mark s.1 p s.2.length q = some n → n < (s.2 ++ M).length ∧ ((s.2 ++ M).getD n (0, 0, 0)).1 ≠ 3 := by
    intro M hM hM0 q n hq
    unfold lm_mark at hq
    by_cases e : q = p
    · rw [if_pos e] at hq
      have := Option.some.inj hq
      subst this
      refine ⟨by simp; omega, ?_⟩
      rw [lm_getD_r (Nat.le_refl _)]; simpa using hM
    · rw [if_neg e] at hq
      obtain ⟨a, b⟩ := i6 q n hq
      exact ⟨by simp; omega, by rw [lm_getD_l a]; exact b⟩
  have hc1 := hL.2 p hpL
  have hc2 := hcl p hpL
  have v1 : ∀ k' : Nat, lm_vO c w u L [(k', w p)] := by
    intro k' x hx
    rw [List.mem_singleton] at hx; subst hx
    exact ⟨lm_first_ok hw hc1, hc2.1⟩
  have nf : ((D ++ [p]).filter (lm_nil c w)).length = (D.filter (lm_nil c w)).length + (if (lm_rest c w p).1 = 0 then 1 else 0) := by
    rw [List.filter_append, List.length_append]
    by_cases e : (lm_rest c w p).1 = 0
    · simp [lm_nil, e]
    · simp [lm_nil, e]
  have i5' : s.2.length + (D.filter (lm_nil c w)).length + 1 = D.length + k := by simpa using i5
  unfold lm_lay
  by_cases e0 : (lm_rest c w p).1 = 0
  · rw [if_pos e0]
    rw [if_pos e0] at nf
    refine ⟨⟨n1, n2, n3, fun q hq hk => ?_, ?_, n6 _ (by simp) (by simp), lm_wO_1 1 (Or.inr rfl) i7, lm_vO_app i8 (v1 1)⟩, fun q hq => (by cases hq)⟩
    · rcases List.mem_append.mp hq with a | a
      · exact Or.inl (n4 q a hk)
      · rw [List.mem_singleton] at a; subst a; omega
    · simp only [List.length_append, List.length_singleton, if_true] at *
      omega
  · rw [if_neg e0]
    rw [if_neg e0] at nf
    by_cases e2 : (lm_rest c w p).1 = 2 ∧ lm_mark s.1 p s.2.length (lm_to w (lm_rest c w p)) = none
    · rw [if_pos e2]
      refine ⟨⟨n1, n2, n3, fun q hq hk => ?_, ?_, n6 _ (by simp) (by simp), lm_wO_1 0 (Or.inl ⟨rfl, by simp⟩) i7, lm_vO_app i8 (v1 0)⟩, fun q hq => ?_⟩
      · rcases List.mem_append.mp hq with a | a
        · exact Or.inl (n4 q a hk)
        · rw [List.mem_singleton] at a; subst a; exact Or.inr rfl
      · show (s.2 ++ [(0, w p)]).length + ((D ++ [p]).filter (lm_nil c w)).length + (if (some (lm_to w (lm_rest c w p)) : Option Nat) = none then 0 else 1) = (D ++ [p]).length + k
        rw [if_neg (by simp), nf, List.length_append, List.length_append, List.length_singleton, List.length_singleton]
        omega
      · have := Option.some.inj hq
        subst this
        exact ⟨e2.2, hc2.2 e2.1⟩
    · rw [if_neg e2]
      refine ⟨⟨n1, n2, n3, fun q hq hk => ?_, ?_, n6 _ (by simp) (by simp), lm_wO_2 i7, lm_vO_app i8 ?_⟩, fun q hq => (by cases hq)⟩
      · rcases List.mem_append.mp hq with a | a
        · exact Or.inl (n4 q a hk)
        · rw [List.mem_singleton] at a; subst a
          refine Or.inl ((n2 _).mpr (fun z => e2 ⟨hk, z⟩))
      · simp only [List.length_append, List.length_singleton, List.length_cons, List.length_nil, if_true] at *
        omega
      · intro x hx
        rcases List.mem_cons.mp hx with a | a
        · subst a; exact ⟨lm_first_ok hw hc1, hc2.1⟩
        · rw [List.mem_singleton] at a; subst a; exact ⟨lm_rest_ok hw hc1, hc2.2⟩
/-- a spine is laid -/
theorem lm_spine_I {c : Nat → Nat} {w : Nat → lm_V} {u : Nat} {L : List Nat} (hw : lm_wf c w u) (hL : lm_gd c w u L) (hcl : ∀ p ∈ L, lm_cs c w L p) : ∀ (n : Nat) (s : lm_S) (D : List Nat) (k p : Nat), lm_I c w u L s D k (some p) → s.1 p = none → p ∈ L → 120 ≤ D.length + n →
    ∃ D', lm_I c w u L (lm_spine c w n s p) D' k none ∧ (∀ q ∈ D, q ∈ D') ∧ p ∈ D' := by
  intro n
  induction n with
  | zero =>
    intro s D k p h hp hpL hn
    exfalso
    have hpD : p ∉ D := fun q => (h.2.1 p).mp q hp
    have n1 : (p :: D).Nodup := List.nodup_cons.mpr ⟨hpD, h.1⟩
    have := lm_gd_len (c := c) (w := w) (u := u) (L := p :: D) ⟨n1, fun q hq => by
      rcases List.mem_cons.mp hq with a | a
      · subst a; exact hL.2 _ hpL
      · exact hL.2 q (h.2.2.1 q a)⟩
    have h1 := hw.1
    simp only [List.length_cons] at this
    omega
  | succ n ih =>
    intro s D k p h hp hpL hn
    obtain ⟨h1, h2⟩ := lm_lay_I hw hL hcl h hp hpL
    unfold lm_spine
    cases e : (lm_lay c w s p).2 with
    | none =>
      rw [e] at h1
      exact ⟨D ++ [p], h1, fun q hq => List.mem_append_left _ hq, by simp⟩
    | some q =>
      rw [e] at h1
      obtain ⟨h3, h4⟩ := h2 q e
      obtain ⟨D', a1, a2, a3⟩ := ih _ _ _ q h1 h3 h4 (by simp; omega)
      exact ⟨D', a1, fun x hx => a2 x (List.mem_append_left _ hx), a2 p (by simp)⟩
end
section
/-! A collection never takes more words than were used: each spine has a cell of its own whose code isn't NEXT -/
def lm_nx (c : Nat → Nat) (w : Nat → lm_V) (p : Nat) : Nat := if (lm_rest c w p).1 = 2 then lm_to w (lm_rest c w p) else p
def lm_it (c : Nat → Nat) (w : Nat → lm_V) : Nat → Nat → Nat
  | 0, p => p
  | n + 1, p => lm_it c w n (lm_nx c w p)
theorem lm_it_add {c : Nat → Nat} {w : Nat → lm_V} : ∀ (a b p : Nat), lm_it c w (a + b) p = lm_it c w b (lm_it c w a p) := by
  intro a
  induction a with
  | zero => intro b p; simp [lm_it]
  | succ a ih => intro b p; rw [Nat.add_right_comm]; simp only [lm_it]; exact ih b _
/-- where the run of NEXT ends -/
def lm_end (c : Nat → Nat) (w : Nat → lm_V) : Nat → Nat → Nat
  | 0, p => p
  | n + 1, p => if c p = 0 then lm_end c w n (lm_cell w (p + 1)) else p
theorem lm_next {c : Nat → Nat} {w : Nat → lm_V} {u p : Nat} (h : lm_wf c w u) (hp : lm_cl c w u p) (h0 : c p = 0) : lm_nx c w p = lm_cell w (p + 1) ∧ p < lm_cell w (p + 1) ∧ lm_cl c w u (lm_cell w (p + 1)) ∧ (lm_rest c w p).1 = 2 ∧ lm_to w (lm_rest c w p) = lm_cell w (p + 1) := by
  have hr : lm_rest c w p = (2, ((p + 1 : Nat) : Int)) := by unfold lm_rest; rw [if_pos h0]
  have h1 := h.2.2.1 p hp.1 h0
  have ht : lm_to w (lm_rest c w p) = lm_cell w (p + 1) := by rw [hr]; unfold lm_to; simp only [Int.toNat_natCast]
  refine ⟨by unfold lm_nx; rw [if_pos (by rw [hr]), ht], ?_, lm_cell_cl h h1.1 h1.2, by rw [hr], ht⟩
  unfold lm_cell
  by_cases h3 : (w (p + 1)).1 = 3
  · rw [if_pos h3]
    rcases h.2.2.2.2.2.1 (p + 1) h1.1 with a | a
    · have := lm_ok_kind a; omega
    · obtain ⟨-, -, x, hx, h4, -⟩ := a
      rw [hx]; simp only [Int.toNat_natCast]; omega
  · rw [if_neg h3]; omega
theorem lm_next_inj {c : Nat → Nat} {w : Nat → lm_V} {u p q : Nat} (h : lm_wf c w u) (hp : lm_cl c w u p) (hq : lm_cl c w u q) (h0 : c p = 0) (h1 : c q = 0) (e : lm_cell w (p + 1) = lm_cell w (q + 1)) : p = q := by
  have a := h.2.2.1 p hp.1 h0
  have b := h.2.2.1 q hq.1 h1
  unfold lm_cell at e
  by_cases m1 : (w (p + 1)).1 = 3
  · rcases h.2.2.2.2.2.1 (p + 1) a.1 with z | z
    · have := lm_ok_kind z; omega
    obtain ⟨-, -, x, hx, hx1, hx2, hx3, hx4, hx5⟩ := z
    by_cases m2 : (w (q + 1)).1 = 3
    · rcases h.2.2.2.2.2.1 (q + 1) b.1 with z | z
      · have := lm_ok_kind z; omega
      obtain ⟨-, -, y, hy, -⟩ := z
      rw [if_pos m1, if_pos m2, hx, hy] at e
      simp only [Int.toNat_natCast] at e
      have := h.2.2.2.2.2.2 (p + 1) (q + 1) a.1 b.1 m1 m2 (by rw [hx, hy, e])
      omega
    · rw [if_pos m1, if_neg m2, hx] at e
      simp only [Int.toNat_natCast] at e
      exact absurd h1 (hx5 q e)
  · by_cases m2 : (w (q + 1)).1 = 3
    · rcases h.2.2.2.2.2.1 (q + 1) b.1 with z | z
      · have := lm_ok_kind z; omega
      obtain ⟨-, -, y, hy, -, -, -, -, hy5⟩ := z
      rw [if_neg m1, if_pos m2, hy] at e
      simp only [Int.toNat_natCast] at e
      exact absurd h0 (hy5 p e.symm)
    · rw [if_neg m1, if_neg m2] at e
      omega
theorem lm_end_stable {c : Nat → Nat} {w : Nat → lm_V} {u : Nat} (h : lm_wf c w u) : ∀ (n p : Nat), lm_cl c w u p → u ≤ p + n → ∀ k, lm_end c w (n + k) p = lm_end c w n p := by
  intro n
  induction n with
  | zero => intro p hp hn; have := hp.1; omega
  | succ n ih =>
    intro p hp hn k
    rw [Nat.add_right_comm]
    simp only [lm_end]
    by_cases h0 : c p = 0
    · rw [if_pos h0, if_pos h0]
      have := lm_next h hp h0
      exact ih _ this.2.2.1 (by omega) k
    · rw [if_neg h0, if_neg h0]
theorem lm_end_step {c : Nat → Nat} {w : Nat → lm_V} {u p : Nat} (h : lm_wf c w u) (hp : lm_cl c w u p) : lm_end c w 120 p = if c p = 0 then lm_end c w 120 (lm_cell w (p + 1)) else p := by
  have h1 : lm_end c w 120 p = lm_end c w 121 p := (lm_end_stable h 120 p hp (by have := h.1; omega) 1).symm
  rw [h1]
  simp only [lm_end]
theorem lm_end_in {c : Nat → Nat} {w : Nat → lm_V} {u : Nat} {L : List Nat} (h : lm_wf c w u) (hL : lm_gd c w u L) (hcl : ∀ p ∈ L, lm_cs c w L p) : ∀ (k p : Nat), u - p ≤ k → p ∈ L → lm_end c w 120 p ∈ L ∧ c (lm_end c w 120 p) ≠ 0 := by
  intro k
  induction k with
  | zero => intro p hk hp; have := (hL.2 p hp).1; omega
  | succ k ih =>
    intro p hk hp
    have hc := hL.2 p hp
    rw [lm_end_step h hc]
    by_cases h0 : c p = 0
    · rw [if_pos h0]
      have := lm_next h hc h0
      exact ih _ (by omega) (by rw [← this.2.2.2.2]; exact (hcl p hp).2 this.2.2.2.1)
    · rw [if_neg h0]; exact ⟨hp, h0⟩
/-- b comes behind a by rests -/
def lm_far (c : Nat → Nat) (w : Nat → lm_V) (a b : Nat) : Prop := ∃ i, lm_it c w i a = b
theorem lm_far_rf {c : Nat → Nat} {w : Nat → lm_V} {a : Nat} : lm_far c w a a := ⟨0, rfl⟩
theorem lm_far_step {c : Nat → Nat} {w : Nat → lm_V} {a b : Nat} (h : lm_far c w (lm_nx c w a) b) : lm_far c w a b := by
  obtain ⟨i, hi⟩ := h; exact ⟨i + 1, hi⟩
/-- .. by runs of NEXT alone -/
def lm_run (c : Nat → Nat) (w : Nat → lm_V) : Nat → Nat → Nat → Prop
  | 0, a, b => a = b
  | n + 1, a, b => a = b ∨ (c a = 0 ∧ lm_run c w n (lm_cell w (a + 1)) b)
theorem lm_run_mono {c : Nat → Nat} {w : Nat → lm_V} : ∀ (n a b : Nat), lm_run c w n a b → lm_run c w (n + 1) a b := by
  intro n
  induction n with
  | zero => intro a b h; exact Or.inl h
  | succ n ih =>
    intro a b h
    rcases h with h | ⟨h1, h2⟩
    · exact Or.inl h
    · exact Or.inr ⟨h1, ih _ _ h2⟩
theorem lm_run_far {c : Nat → Nat} {w : Nat → lm_V} {u : Nat} (h : lm_wf c w u) : ∀ (n a b : Nat), lm_cl c w u a → lm_run c w n a b → lm_far c w a b := by
  intro n
  induction n with
  | zero => intro a b _ hr; exact ⟨0, hr⟩
  | succ n ih =>
    intro a b ha hr
    rcases hr with hr | ⟨h0, hr⟩
    · exact ⟨0, hr⟩
    · have := lm_next h ha h0
      refine lm_far_step ?_
      rw [this.1]
      exact ih _ _ this.2.2.1 hr
/-- the run from a comes to the word behind b: then b itself lies on it, or b's rest is a -/
theorem lm_run_back {c : Nat → Nat} {w : Nat → lm_V} {u : Nat} (h : lm_wf c w u) {b : Nat} (hb : lm_cl c w u b) (hb0 : c b = 0) : ∀ (n a : Nat), lm_cl c w u a → lm_run c w n a (lm_cell w (b + 1)) → a = lm_cell w (b + 1) ∨ lm_run c w n a b := by
  intro n
  induction n with
  | zero => intro a _ hr; exact Or.inl hr
  | succ n ih =>
    intro a ha hr
    rcases hr with hr | ⟨h0, hr⟩
    · exact Or.inl hr
    · have := lm_next h ha h0
      rcases ih _ this.2.2.1 hr with e | e
      · have := lm_next_inj h ha hb h0 hb0 e
        exact Or.inr (Or.inl this)
      · exact Or.inr (Or.inr ⟨h0, e⟩)
theorem lm_end_chain {c : Nat → Nat} {w : Nat → lm_V} {u : Nat} (h : lm_wf c w u) : ∀ (k a b : Nat), (u - a) + (u - b) ≤ k → lm_cl c w u a → lm_cl c w u b → lm_end c w 120 a = lm_end c w 120 b → (∃ n, lm_run c w n a b) ∨ ∃ n, lm_run c w n b a := by
  intro k
  induction k with
  | zero => intro a b hk ha hb; have := ha.1; omega
  | succ k ih =>
    intro a b hk ha hb e
    by_cases ea : c a = 0
    · have na := lm_next h ha ea
      rw [lm_end_step h ha, if_pos ea] at e
      by_cases eb : c b = 0
      · have nb := lm_next h hb eb
        rw [lm_end_step h hb, if_pos eb] at e
        rcases ih _ _ (by have := ha.1; have := hb.1; omega) na.2.2.1 nb.2.2.1 e with ⟨n, hn⟩ | ⟨n, hn⟩
        · rcases lm_run_back h hb eb n _ na.2.2.1 hn with z | z
          · have := lm_next_inj h ha hb ea eb z
            exact Or.inl ⟨0, this⟩
          · exact Or.inl ⟨n + 1, Or.inr ⟨ea, z⟩⟩
        · rcases lm_run_back h ha ea n _ nb.2.2.1 hn with z | z
          · have := lm_next_inj h hb ha eb ea z
            exact Or.inr ⟨0, this⟩
          · exact Or.inr ⟨n + 1, Or.inr ⟨eb, z⟩⟩
      · rcases ih _ b (by have := ha.1; omega) na.2.2.1 hb e with ⟨n, hn⟩ | ⟨n, hn⟩
        · exact Or.inl ⟨n + 1, Or.inr ⟨ea, hn⟩⟩
        · cases n with
          | zero => exact Or.inl ⟨1, Or.inr ⟨ea, Eq.symm hn⟩⟩
          | succ n =>
            rcases hn with hn | ⟨h0, -⟩
            · exact Or.inl ⟨1, Or.inr ⟨ea, hn.symm⟩⟩
            · exact absurd h0 eb
    · rw [lm_end_step h ha, if_neg ea] at e
      by_cases eb : c b = 0
      · have nb := lm_next h hb eb
        rw [lm_end_step h hb, if_pos eb] at e
        rcases ih a _ (by have := hb.1; omega) ha nb.2.2.1 (by rw [lm_end_step h ha, if_neg ea]; exact e) with ⟨n, hn⟩ | ⟨n, hn⟩
        · cases n with
          | zero => exact Or.inr ⟨1, Or.inr ⟨eb, Eq.symm hn⟩⟩
          | succ n =>
            rcases hn with hn | ⟨h0, -⟩
            · exact Or.inr ⟨1, Or.inr ⟨eb, hn.symm⟩⟩
            · exact absurd h0 ea
        · exact Or.inr ⟨n + 1, Or.inr ⟨eb, hn⟩⟩
      · rw [lm_end_step h hb, if_neg eb] at e
        exact Or.inl ⟨0, e⟩
/-- cells of which each has one ahead of it among them come back to themselves -/
theorem lm_round {c : Nat → Nat} {w : Nat → lm_V} {L : List Nat} (hL : L.length ≤ 120) (U : Nat → Prop) (hU : ∀ x, U x → x ∈ L) (hp : ∀ x, U x → ∃ y, U y ∧ lm_nx c w y = x) (x : Nat) (hx : U x) : ∃ m, 0 < m ∧ lm_it c w m x = x := by
  have hY : ∀ k x, U x → ∃ y, U y ∧ lm_it c w k y = x := by
    intro k
    induction k with
    | zero => intro x hx; exact ⟨x, hx, rfl⟩
    | succ k ih =>
      intro x hx
      obtain ⟨y, hy, e⟩ := ih x hx
      obtain ⟨z, hz, e2⟩ := hp y hy
      exact ⟨z, hz, by simp only [lm_it]; rw [e2]; exact e⟩
  have hY2 : ∀ k, ∃ y, U y ∧ lm_it c w k y = x := fun k => hY k x hx
  have hch : ∃ Y : Nat → Nat, ∀ k, U (Y k) ∧ lm_it c w k (Y k) = x := ⟨fun k => Classical.choose (hY2 k), fun k => Classical.choose_spec (hY2 k)⟩
  obtain ⟨Y, hYs⟩ := hch
  have hno : ¬ ((List.range 121).map Y).Nodup := by
    intro hn
    have := List.Nodup.length_le_of_subset hn (l₂ := L) (fun y hy => by
      obtain ⟨k, -, rfl⟩ := List.mem_map.mp hy
      exact hU _ (hYs k).1)
    simp at this
    omega
  have hex : ∃ i j, i < j ∧ Y i = Y j := by
    apply Classical.byContradiction
    intro hne
    apply hno
    unfold List.Nodup
    rw [List.pairwise_map]
    refine List.Pairwise.imp (R := fun a b => a < b) (fun {a b} hab e => hne ⟨a, b, hab, e⟩) List.pairwise_lt_range
  obtain ⟨i, j, hij, e⟩ := hex
  refine ⟨j - i, by omega, ?_⟩
  have h1 := (hYs i).2
  have h2 := (hYs j).2
  rw [← e] at h2
  have : j = i + (j - i) := by omega
  rw [this, lm_it_add, h1] at h2
  exact h2
/-- what is laid is closed under rests: then all that comes behind is laid -/
theorem lm_far_in {c : Nat → Nat} {w : Nat → lm_V} {D : List Nat} (hD : ∀ p ∈ D, (lm_rest c w p).1 = 2 → lm_to w (lm_rest c w p) ∈ D) : ∀ (i a : Nat), a ∈ D → lm_it c w i a ∈ D := by
  intro i
  induction i with
  | zero => intro a ha; exact ha
  | succ i ih =>
    intro a ha
    simp only [lm_it]
    refine ih _ ?_
    unfold lm_nx
    by_cases e : (lm_rest c w a).1 = 2
    · rw [if_pos e]; exact hD a ha e
    · rw [if_neg e]; exact ha
theorem lm_run_R {c : Nat → Nat} {w : Nat → lm_V} {u : Nat} {L : List Nat} (h : lm_wf c w u) (hL : lm_gd c w u L) (hcl : ∀ p ∈ L, lm_cs c w L p) : ∀ (n a b : Nat), a ∈ L → lm_run c w n a b → a = b ∨ lm_isR c w L b := by
  intro n
  induction n with
  | zero => intro a b _ hr; exact Or.inl hr
  | succ n ih =>
    intro a b ha hr
    rcases hr with hr | ⟨h0, hr⟩
    · exact Or.inl hr
    · have na := lm_next h (hL.2 a ha) h0
      have hin : lm_cell w (a + 1) ∈ L := by rw [← na.2.2.2.2]; exact (hcl a ha).2 na.2.2.2.1
      rcases ih _ _ hin hr with e | e
      · exact Or.inr ⟨a, ha, na.2.2.2.1, by rw [na.2.2.2.2]; exact e⟩
      · exact Or.inr e
/-- the heads: each was laid; the ends of their runs differ; in the first phase they are no rests -/
def lm_J (c : Nat → Nat) (w : Nat → lm_V) (u : Nat) (L : List Nat) (hd : Bool) (s : lm_S) (D Hs : List Nat) : Prop :=
  lm_I c w u L s D Hs.length none ∧ (∀ x ∈ Hs, x ∈ D) ∧ (Hs.map (lm_end c w 120)).Nodup ∧ (hd = true → ∀ x ∈ Hs, ¬ lm_isR c w L x) ∧ (hd = false → ∀ x ∈ Hs, lm_isR c w L x → ∃ m, 0 < m ∧ lm_it c w m x = x) ∧
  (hd = false → ∀ x ∈ L, x ∉ D → ∃ m, 0 < m ∧ lm_it c w m x = x)
theorem lm_try_J {c : Nat → Nat} {w : Nat → lm_V} {u : Nat} {L : List Nat} (hw : lm_wf c w u) (hL : lm_gd c w u L) (hcl : ∀ p ∈ L, lm_cs c w L p) {hd : Bool} {s : lm_S} {D Hs : List Nat} {p : Nat} (hJ : lm_J c w u L hd s D Hs) (hp : p ∈ L) :
    ∃ D' Hs', lm_J c w u L hd (lm_try c w L hd s p) D' Hs' ∧ (∀ q ∈ D, q ∈ D') ∧ (¬ (hd = true ∧ lm_isR c w L p) → p ∈ D') := by
  obtain ⟨j1, j2, j3, j4, j5, j6⟩ := hJ
  unfold lm_try
  by_cases e : s.1 p = none ∧ ¬ (hd = true ∧ lm_isRb c w L p = true)
  · rw [if_pos e]
    rw [lm_isRb_iff] at e
    obtain ⟨e1, e2⟩ := e
    have hpD : p ∉ D := fun q => (j1.2.1 p).mp q e1
    have hst : lm_I c w u L s D (Hs ++ [p]).length (some p) := by
      obtain ⟨i1, i2, i3, i4, i5, i6, i7, i8⟩ := j1
      refine ⟨i1, i2, i3, fun q hq hk => Or.inl ((i4 q hq hk).resolve_right (by simp)), ?_, i6, ?_, i8⟩
      · simp only [if_true, List.length_append, List.length_singleton] at i5 ⊢
        simp
        omega
      · obtain ⟨a1, a2, a3, a4⟩ := i7
        exact ⟨a1, fun n hn h0 => Or.inl ((a2 n hn h0).resolve_right (fun z => by simp at z)), a3, a4⟩
    obtain ⟨D', a1, a2, a3⟩ := lm_spine_I hw hL hcl 120 s D _ p hst e1 hp (by omega)
    have hclo : ∀ q ∈ D, (lm_rest c w q).1 = 2 → lm_to w (lm_rest c w q) ∈ D := fun q hq hk => (j1.2.2.2.1 q hq hk).resolve_right (by simp)
    refine ⟨D', Hs ++ [p], ⟨a1, fun x hx => ?_, ?_, fun h1 x hx => ?_, fun h1 x hx => ?_, fun h1 x hx hxD => ?_⟩, a2, fun _ => a3⟩
    · rcases List.mem_append.mp hx with z | z
      · exact a2 x (j2 x z)
      · rw [List.mem_singleton] at z; subst z; exact a3
    · rw [List.map_append, List.nodup_append]
      refine ⟨j3, by simp, ?_⟩
      intro a ha b hb hab
      simp only [List.map_cons, List.map_nil, List.mem_singleton] at hb
      subst hb
      obtain ⟨y, hy, rfl⟩ := List.mem_map.mp ha
      have hyD := j2 y hy
      have hyL := j1.2.2.1 y hyD
      rcases lm_end_chain hw _ y p (Nat.le_refl _) (hL.2 y hyL) (hL.2 p hp) hab with ⟨n, hn⟩ | ⟨n, hn⟩
      · obtain ⟨i, hi⟩ := lm_run_far hw n y p (hL.2 y hyL) hn
        exact hpD (hi ▸ lm_far_in hclo i y hyD)
      · rcases lm_run_R hw hL hcl n p y hp hn with z | z
        · subst z; exact hpD hyD
        · cases hd with
          | true => exact j4 rfl y hy z
          | false =>
            obtain ⟨m, hm, hm2⟩ := j6 rfl p hp hpD
            obtain ⟨i, hi⟩ := lm_run_far hw n p y (hL.2 p hp) hn
            have hmul : ∀ k, lm_it c w (m * k) p = p := by
              intro k
              induction k with
              | zero => rfl
              | succ k ih => rw [Nat.mul_succ, lm_it_add, ih, hm2]
            have hle : i ≤ m * i := Nat.le_mul_of_pos_left i hm
            have h3 : m * i = i + (m * i - i) := by omega
            have h4 := hmul i
            rw [h3, lm_it_add, hi] at h4
            exact hpD (h4 ▸ lm_far_in hclo _ y hyD)
    · rcases List.mem_append.mp hx with z | z
      · exact j4 h1 x z
      · rw [List.mem_singleton] at z; subst z; exact fun q => e2 ⟨h1, q⟩
    · rcases List.mem_append.mp hx with z | z
      · exact j5 h1 x z
      · rw [List.mem_singleton] at z; subst z; exact fun _ => j6 h1 x hp hpD
    · exact j6 h1 x hx (fun q => hxD (a2 x q))
  · rw [if_neg e]
    refine ⟨D, Hs, ⟨j1, j2, j3, j4, j5, j6⟩, fun q hq => hq, fun hno => ?_⟩
    rw [lm_isRb_iff] at e
    apply Classical.byContradiction
    intro hpD
    apply e
    refine ⟨?_, hno⟩
    apply Classical.byContradiction
    intro z
    exact hpD ((j1.2.1 p).mpr z)
theorem lm_phase_J {c : Nat → Nat} {w : Nat → lm_V} {u : Nat} {L : List Nat} (hw : lm_wf c w u) (hL : lm_gd c w u L) (hcl : ∀ p ∈ L, lm_cs c w L p) {hd : Bool} {s : lm_S} {D Hs : List Nat} (hJ : lm_J c w u L hd s D Hs) : ∀ n, n ≤ L.length →
    ∃ D' Hs', lm_J c w u L hd (lm_phase c w L hd s n) D' Hs' ∧ (∀ q ∈ D, q ∈ D') ∧ ∀ i, i < n → ¬ (hd = true ∧ lm_isR c w L (L.getD i 0)) → L.getD i 0 ∈ D' := by
  intro n
  induction n with
  | zero => intro _; exact ⟨D, Hs, hJ, fun q hq => hq, fun i hi => by omega⟩
  | succ n ih =>
    intro hn
    obtain ⟨D1, H1, a1, a2, a3⟩ := ih (by omega)
    have hm : L.getD n 0 ∈ L := by
      rw [List.getD_eq_getElem?_getD, List.getElem?_eq_getElem (by omega)]; simp
    obtain ⟨D2, H2, b1, b2, b3⟩ := lm_try_J hw hL hcl a1 hm
    refine ⟨D2, H2, b1, fun q hq => b2 q (a2 q hq), fun i hi hno => ?_⟩
    by_cases e : i = n
    · subst e; exact b3 hno
    · exact b2 _ (a3 i (by omega) hno)
theorem lm_mem_getD {L : List Nat} {p : Nat} (h : p ∈ L) : ∃ i, i < L.length ∧ L.getD i 0 = p := by
  obtain ⟨j, hj, e⟩ := List.getElem_of_mem h
  exact ⟨j, hj, by rw [List.getD_eq_getElem?_getD, List.getElem?_eq_getElem hj]; simpa using e⟩
/-- both phases: all that is listed is laid, and no more words are taken than were used -/
theorem lm_laid_spec {c : Nat → Nat} {w : Nat → lm_V} {u : Nat} {L : List Nat} (hw : lm_wf c w u) (hL : lm_gd c w u L) (hcl : ∀ p ∈ L, lm_cs c w L p) :
    (∀ p ∈ L, ∃ n, (lm_laid c w L).1 p = some n ∧ n < (lm_laid c w L).2.length ∧ ((lm_laid c w L).2.getD n (0, 0, 0)).1 ≠ 3) ∧ lm_wO (lm_laid c w L).2 False ∧ lm_vO c w u L (lm_laid c w L).2 ∧ (lm_laid c w L).2.length ≤ u := by
  have h0 : lm_J c w u L true (fun _ => none, []) [] [] := by
    refine ⟨⟨List.nodup_nil, fun p => by simp, fun p hp => (by cases hp), fun p hp => (by cases hp), by simp, fun p n h => (by cases h), ⟨fun n hn => by simp at hn, fun n hn => by simp at hn, fun n hn => by simp at hn, fun n hn => by simp at hn⟩, fun x hx => (by cases hx)⟩, fun x hx => (by cases hx), by simp, fun _ x hx => (by cases hx), fun h => (by cases h), fun h => (by cases h)⟩
  obtain ⟨D1, H1, a1, -, a3⟩ := lm_phase_J hw hL hcl h0 L.length (Nat.le_refl _)
  have hlen : L.length ≤ 120 := Nat.le_trans (lm_gd_len hL) hw.1
  have hclo1 : ∀ q ∈ D1, (lm_rest c w q).1 = 2 → lm_to w (lm_rest c w q) ∈ D1 := fun q hq hk => (a1.1.2.2.2.1 q hq hk).resolve_right (by simp)
  have hround : ∀ x ∈ L, x ∉ D1 → ∃ m, 0 < m ∧ lm_it c w m x = x := by
    intro x hx hxD
    refine lm_round hlen (fun x => x ∈ L ∧ x ∉ D1) (fun x hx => hx.1) (fun x hx => ?_) x ⟨hx, hxD⟩
    obtain ⟨i, hi, e⟩ := lm_mem_getD hx.1
    have hR : lm_isR c w L x := by
      apply Classical.byContradiction
      intro hno
      exact hx.2 (e ▸ a3 i hi (fun z => hno (e ▸ z.2)))
    obtain ⟨y, hy, hy1, hy2⟩ := hR
    refine ⟨y, ⟨hy, fun z => hx.2 (hy2 ▸ hclo1 y z hy1)⟩, ?_⟩
    unfold lm_nx; rw [if_pos hy1]; exact hy2
  have h1 : lm_J c w u L false (lm_phase c w L true (fun _ => none, []) L.length) D1 H1 := ⟨a1.1, a1.2.1, a1.2.2.1, (fun h => (by cases h)), (fun _ x hx hR => absurd hR (a1.2.2.2.1 rfl x hx)), (fun _ => hround)⟩
  obtain ⟨D2, H2, b1, -, b3⟩ := lm_phase_J hw hL hcl h1 L.length (Nat.le_refl _)
  have hall : ∀ p ∈ L, p ∈ D2 := by
    intro p hp
    obtain ⟨i, hi, e⟩ := lm_mem_getD hp
    exact e ▸ b3 i hi (fun z => by cases z.1)
  obtain ⟨⟨i1, i2, i3, i4, i5, i6, i7, i8⟩, j2, j3, -⟩ := b1
  refine ⟨fun p hp => ?_, ?_, i8, ?_⟩
  · have h2 := (i2 p).mp (hall p hp)
    cases e : (lm_phase c w L false (lm_phase c w L true (fun _ => none, []) L.length) L.length).1 p with
    | none => exact absurd e h2
    | some n =>
      obtain ⟨g1, g2⟩ := i6 p n e
      exact ⟨n, e, g1, g2⟩
  · obtain ⟨c1, c2, c3, c4⟩ := i7
    exact ⟨c1, fun n hn h0 => Or.inl ((c2 n hn h0).resolve_right (fun z => by simp at z)), c3, c4⟩
  · -- the count
    show (lm_phase c w L false (lm_phase c w L true (fun _ => none, []) L.length) L.length).2.length ≤ u
    generalize lm_phase c w L false (lm_phase c w L true (fun _ => none, []) L.length) L.length = S at *
    have k1 : H2.length ≤ (L.filter (fun p => decide (c p ≠ 0))).length := by
      have := List.Nodup.length_le_of_subset j3 (l₂ := L.filter (fun p => decide (c p ≠ 0))) (fun y hy => by
        obtain ⟨x, hx, rfl⟩ := List.mem_map.mp hy
        have hxL := i3 x (j2 x hx)
        have := lm_end_in hw hL hcl _ x (Nat.le_refl _) hxL
        exact List.mem_filter.mpr ⟨this.1, by simpa using this.2⟩)
      simpa using this
    have k2 : (L.filter (fun p => decide (c p ≠ 0))).length = (L.filter (fun p => decide (c p = 1))).length + (L.filter (fun p => decide (c p = 2))).length := by
      have hcode : ∀ p ∈ L, c p = 0 ∨ c p = 1 ∨ c p = 2 := fun p hp => by
        have h1 := hL.2 p hp
        have h2 := hw.2.1 p h1.1
        have h3 := h1.2.1
        omega
      clear k1 i1 i2 i3 i4 i5 i6 i7 i8 j2 j3 b3 hall h1 hround hclo1 hlen a1 a3 h0
      clear hcl hL
      induction L with
      | nil => rfl
      | cons a l ih =>
        have := ih (fun p hp => hcode p (List.mem_cons_of_mem _ hp))
        rcases hcode a List.mem_cons_self with e | e | e
        · simp [List.filter_cons, e]; simpa using this
        · simp [List.filter_cons, e]; simp at this; omega
        · simp [List.filter_cons, e]; simp at this; omega
    have k3 : (L.filter (fun p => decide (c p = 1))).length ≤ (D2.filter (lm_nil c w)).length := by
      refine List.Nodup.length_le_of_subset (List.Nodup.sublist List.filter_sublist hL.1) (fun p hp => ?_)
      obtain ⟨h1, h2⟩ := List.mem_filter.mp hp
      refine List.mem_filter.mpr ⟨hall p h1, ?_⟩
      have h2 : c p = 1 := by simpa using h2
      simp [lm_nil, lm_rest, h2]
    have k4 : D2.length + (L.filter (fun p => decide (c p = 2))).length ≤ u := by
      have hn : (D2 ++ (L.filter (fun p => decide (c p = 2))).map (· + 1)).Nodup := by
        rw [List.nodup_append]
        refine ⟨i1, ?_, ?_⟩
        · unfold List.Nodup
          rw [List.pairwise_map]
          exact List.Pairwise.imp (fun {a b} h e => h (by omega)) (List.Nodup.sublist List.filter_sublist hL.1)
        · intro a ha b hb hab
          obtain ⟨x, hx, rfl⟩ := List.mem_map.mp hb
          obtain ⟨h1, h2⟩ := List.mem_filter.mp hx
          have h2 : c x = 2 := by simpa using h2
          have := hw.2.2.2.1 x (hL.2 x h1).1 h2
          have h3 := (hL.2 a (i3 a ha)).2.1
          rw [hab] at h3
          exact h3 this.2
      have := List.Nodup.length_le_of_subset hn (l₂ := List.range u) (fun y hy => by
        rcases List.mem_append.mp hy with z | z
        · exact List.mem_range.mpr (hL.2 y (i3 y z)).1
        · obtain ⟨x, hx, rfl⟩ := List.mem_map.mp z
          obtain ⟨h1, h2⟩ := List.mem_filter.mp hx
          have h2 : c x = 2 := by simpa using h2
          exact List.mem_range.mpr (hw.2.2.2.1 x (hL.2 x h1).1 h2).1)
      simp at this
      simpa using this
    simp only [if_true] at i5
    omega
end
section
/-! The state behind a collection, and behind each change, is as it must be -/
def lm_gc (c : Nat → Nat) (w rt : Nat → lm_V) : Nat → Nat := fun n => ((lm_laid c w (lm_list c w rt)).2.getD n (0, 0, 0)).1
def lm_gw (c : Nat → Nat) (w rt : Nat → lm_V) : Nat → lm_V := fun n => lm_tr w (lm_laid c w (lm_list c w rt)).1 ((lm_laid c w (lm_list c w rt)).2.getD n (0, 0, 0)).2
def lm_gu (c : Nat → Nat) (w rt : Nat → lm_V) : Nat := (lm_laid c w (lm_list c w rt)).2.length
def lm_gr (c : Nat → Nat) (w rt : Nat → lm_V) : Nat → lm_V := fun r => lm_tr w (lm_laid c w (lm_list c w rt)).1 (rt r)
def lm_st (c : Nat → Nat) (w : Nat → lm_V) (u : Nat) (rt : Nat → lm_V) : Prop := lm_wf c w u ∧ ∀ r, r < 10 → lm_ok c u (rt r)
theorem lm_getD_mem {O : lm_O} {n : Nat} {d : Nat × lm_V} (h : n < O.length) : O.getD n d ∈ O := by
  rw [List.getD_eq_getElem?_getD, List.getElem?_eq_getElem h]; simp
theorem lm_gather_st {c : Nat → Nat} {w : Nat → lm_V} {u : Nat} {rt : Nat → lm_V} (h : lm_st c w u rt) : lm_st (lm_gc c w rt) (lm_gw c w rt) (lm_gu c w rt) (lm_gr c w rt) ∧ lm_gu c w rt ≤ u ∧ ∀ n, n < lm_gu c w rt → (lm_gw c w rt n).1 < 3 := by
  obtain ⟨hw, hr⟩ := h
  obtain ⟨hL, hroot, hcl⟩ := lm_list_spec hw hr
  obtain ⟨l1, ⟨l2, l3, l4, l5⟩, l6, l7⟩ := lm_laid_spec hw hL hcl
  have htr : ∀ v : lm_V, lm_ok c u v → (v.1 = 2 → lm_to w v ∈ lm_list c w rt) → lm_ok (lm_gc c w rt) (lm_gu c w rt) (lm_tr w (lm_laid c w (lm_list c w rt)).1 v) := by
    intro v hv hin
    unfold lm_tr
    by_cases e : v.1 = 2
    · rw [if_pos e]
      obtain ⟨n, h1, h2, h3⟩ := l1 _ (hin e)
      rw [h1]
      exact Or.inr (Or.inr ⟨rfl, n, rfl, h2, h3⟩)
    · rw [if_neg e]
      rcases hv with a | a | a
      · exact Or.inl a
      · exact Or.inr (Or.inl a)
      · exact absurd a.1 e
  have hok : ∀ n, n < lm_gu c w rt → lm_ok (lm_gc c w rt) (lm_gu c w rt) (lm_gw c w rt n) := by
    intro n hn
    have := l6 _ (lm_getD_mem (d := (0, 0, 0)) hn)
    exact htr _ this.1 this.2
  have hk : ∀ n, n < lm_gu c w rt → (lm_gw c w rt n).1 < 3 := fun n hn => lm_ok_kind (hok n hn)
  refine ⟨⟨⟨Nat.le_trans l7 hw.1, fun p hp => l2 p hp, fun p hp h0 => (l3 p hp h0).resolve_right (fun z => z.1), fun p hp h0 => l4 p hp h0, fun p hp h0 => l5 p hp h0, fun p hp => Or.inl (hok p hp), fun p p' hp _ h3 _ _ => ?_⟩, fun r hr' => htr _ (hr r hr') (hroot r hr')⟩, l7, hk⟩
  have := hk p hp
  omega
/-- words M taken behind those used -/
def lm_ac (c : Nat → Nat) (u : Nat) (M : lm_O) : Nat → Nat := fun p => if p < u then c p else (M.getD (p - u) (0, 0, 0)).1
def lm_aw (w : Nat → lm_V) (u : Nat) (M : lm_O) : Nat → lm_V := fun p => if p < u then w p else (M.getD (p - u) (0, 0, 0)).2
theorem lm_ok_app {c : Nat → Nat} {u : Nat} {M : lm_O} {v : lm_V} (h : lm_ok c u v) : lm_ok (lm_ac c u M) (u + M.length) v := by
  rcases h with a | a | ⟨a, q, b1, b2, b3⟩
  · exact Or.inl a
  · exact Or.inr (Or.inl a)
  · exact Or.inr (Or.inr ⟨a, q, b1, by omega, by unfold lm_ac; rw [if_pos b2]; exact b3⟩)
theorem lm_app_wf {c : Nat → Nat} {w : Nat → lm_V} {u : Nat} {M : lm_O} (h : lm_wf c w u) (hM : lm_wO M False) (hv : ∀ x ∈ M, lm_ok c u x.2 ∨ ∃ n, x.2 = (2, ((u + n : Nat) : Int)) ∧ n < M.length ∧ (M.getD n (0, 0, 0)).1 ≠ 3) (h3 : ∀ x ∈ M, M.getD 0 (0, 0, 0) = x → x.1 ≠ 3) (hu : u + M.length ≤ 120) : lm_wf (lm_ac c u M) (lm_aw w u M) (u + M.length) := by
  obtain ⟨w1, w2, w3, w4, w5, w6, w7⟩ := h
  obtain ⟨m1, m2, m3, m4⟩ := hM
  have cl : ∀ p, p < u → lm_ac c u M p = c p := fun p hp => by unfold lm_ac; rw [if_pos hp]
  have wl : ∀ p, p < u → lm_aw w u M p = w p := fun p hp => by unfold lm_aw; rw [if_pos hp]
  have ch : ∀ n, lm_ac c u M (u + n) = (M.getD n (0, 0, 0)).1 := fun n => by unfold lm_ac; rw [if_neg (by omega), Nat.add_sub_cancel_left]
  have wh : ∀ n, lm_aw w u M (u + n) = (M.getD n (0, 0, 0)).2 := fun n => by unfold lm_aw; rw [if_neg (by omega), Nat.add_sub_cancel_left]
  have hok : ∀ n, n < M.length → lm_ok (lm_ac c u M) (u + M.length) (lm_aw w u M (u + n)) := by
    intro n hn
    rw [wh]
    rcases hv _ (lm_getD_mem (d := (0, 0, 0)) hn) with a | ⟨k, a, b, d⟩
    · exact lm_ok_app a
    · rw [a]; exact Or.inr (Or.inr ⟨rfl, u + k, rfl, by omega, by rw [ch]; exact d⟩)
  refine ⟨hu, fun p hp => ?_, fun p hp h0 => ?_, fun p hp h0 => ?_, fun p hp h0 => ?_, fun p hp => ?_, fun p p' hp hp' k1 k2 e => ?_⟩
  · by_cases e : p < u
    · rw [cl p e]; exact w2 p e
    · have : p = u + (p - u) := by omega
      rw [this, ch]; exact m1 _ (by omega)
  · by_cases e : p < u
    · rw [cl p e] at h0
      have := w3 p e h0
      exact ⟨by omega, by rw [cl _ this.1]; exact this.2⟩
    · have e2 : p = u + (p - u) := by omega
      rw [e2, ch] at h0
      have := (m2 _ (by omega) h0).resolve_right (fun z => z.1)
      refine ⟨by omega, ?_⟩
      rw [show p + 1 = u + (p - u + 1) by omega, ch]; exact this.2
  · by_cases e : p < u
    · rw [cl p e] at h0
      have := w4 p e h0
      exact ⟨by omega, by rw [cl _ this.1]; exact this.2⟩
    · have e2 : p = u + (p - u) := by omega
      rw [e2, ch] at h0
      have := m3 _ (by omega) h0
      refine ⟨by omega, ?_⟩
      rw [show p + 1 = u + (p - u + 1) by omega, ch]; exact this.2
  · by_cases e : p < u
    · rw [cl p e] at h0
      obtain ⟨j, a, b⟩ := w5 p e h0
      exact ⟨j, a, by rw [cl j (by omega)]; exact b⟩
    · have e2 : p = u + (p - u) := by omega
      rw [e2, ch] at h0
      obtain ⟨j, a, b⟩ := m4 _ (by omega) h0
      exact ⟨u + j, by omega, by rw [ch]; exact b⟩
  · by_cases e : p < u
    · rw [wl p e]
      rcases w6 p e with a | ⟨a1, a2, q, a3, a4, a5, a6, a7, a8⟩
      · exact Or.inl (lm_ok_app a)
      · refine Or.inr ?_
        unfold lm_mv
        rw [wl p e, cl p e]
        exact ⟨a1, a2, q, a3, a4, by omega, by rw [cl q a5]; exact a6, by rw [wl q a5]; exact a7, fun j hj => by rw [cl j (by omega)]; exact a8 j hj⟩
    · have e2 : p = u + (p - u) := by omega
      rw [e2]; exact Or.inl (hok _ (by omega))
  · have hs : ∀ z, z < u + M.length → (lm_aw w u M z).1 = 3 → z < u := by
      intro z hz hk
      by_cases e : z < u
      · exact e
      · have e2 : z = u + (z - u) := by omega
        rw [e2] at hk
        have := lm_ok_kind (hok (z - u) (by omega))
        omega
    have a := hs p hp k1
    have b := hs p' hp' k2
    rw [wl p a] at k1 e
    rw [wl p' b] at k2 e
    exact w7 p p' a b k1 k2 e
/-- one content changes, neither the old nor the new one is moved -/
def lm_up {α : Type} (f : Nat → α) (k : Nat) (x : α) : Nat → α := fun j => if j = k then x else f j
theorem lm_up_eq {α : Type} {f : Nat → α} {k : Nat} {x : α} : lm_up f k x k = x := by simp [lm_up]
theorem lm_up_ne {α : Type} {f : Nat → α} {k j : Nat} {x : α} (h : j ≠ k) : lm_up f k x j = f j := by simp [lm_up, h]
theorem lm_set_wf {c : Nat → Nat} {w : Nat → lm_V} {u p : Nat} {v : lm_V} (h : lm_wf c w u) (hp : p < u) (hk : (w p).1 ≠ 3) (hv : lm_ok c u v) : lm_wf c (lm_up w p v) u := by
  obtain ⟨w1, w2, w3, w4, w5, w6, w7⟩ := h
  have hv3 := lm_ok_kind hv
  refine ⟨w1, w2, w3, w4, w5, fun z hz => ?_, fun z z' hz hz' k1 k2 e => ?_⟩
  · by_cases e : z = p
    · subst e; rw [lm_up_eq]; exact Or.inl hv
    · rw [lm_up_ne e]
      rcases w6 z hz with a | ⟨a1, a2, q, a3, a4, a5, a6, a7, a8⟩
      · exact Or.inl a
      · refine Or.inr ?_
        unfold lm_mv
        rw [lm_up_ne e]
        refine ⟨a1, a2, q, a3, a4, a5, a6, ?_, a8⟩
        by_cases e2 : q = p
        · subst e2; rw [lm_up_eq]; omega
        · rw [lm_up_ne e2]; exact a7
  · have n1 : z ≠ p := fun q => by subst q; rw [lm_up_eq] at k1; omega
    have n2 : z' ≠ p := fun q => by subst q; rw [lm_up_eq] at k2; omega
    rw [lm_up_ne n1] at k1 e
    rw [lm_up_ne n2] at k2 e
    exact w7 z z' hz hz' k1 k2 e
/-- a pair moves to two new words -/
theorem lm_move_wf {c : Nat → Nat} {w : Nat → lm_V} {u p : Nat} {v : lm_V} (h : lm_wf c w u) (hp : lm_cl c w u p) (hc : c p ≠ 2) (hv : lm_ok c u v) (hu : u + 2 ≤ 120) :
    lm_wf (lm_ac c u [(2, w p), (3, v)]) (lm_up (lm_aw w u [(2, w p), (3, v)]) p (3, (u : Int))) (u + 2) := by
  have hok := lm_first_ok h hp
  have hA := lm_app_wf (M := [(2, w p), (3, v)]) h (by
      refine ⟨fun n hn => ?_, fun n hn h0 => ?_, fun n hn h0 => ?_, fun n hn h0 => ?_⟩
      · rcases (show n = 0 ∨ n = 1 by simp at hn; omega) with e | e <;> subst e <;> simp
      · rcases (show n = 0 ∨ n = 1 by simp at hn; omega) with e | e <;> subst e <;> simp at h0
      · rcases (show n = 0 ∨ n = 1 by simp at hn; omega) with e | e
        · subst e; simp
        · subst e; simp at h0
      · rcases (show n = 0 ∨ n = 1 by simp at hn; omega) with e | e
        · subst e; simp at h0
        · subst e; exact ⟨0, rfl, by simp⟩) (fun x hx => by
      rcases List.mem_cons.mp hx with a | a
      · subst a; exact Or.inl hok
      · rw [List.mem_singleton] at a; subst a; exact Or.inl hv) (fun x _ e => by subst e; simp) (by simpa using hu)
  have hlt : c p < 2 := by
    have := h.2.1 p hp.1
    have := hp.2.1
    omega
  have cl : ∀ z, z < u → lm_ac c u [(2, w p), (3, v)] z = c z := fun z hz => by unfold lm_ac; rw [if_pos hz]
  have wl : ∀ z, z < u → lm_aw w u [(2, w p), (3, v)] z = w z := fun z hz => by unfold lm_aw; rw [if_pos hz]
  have cu : lm_ac c u [(2, w p), (3, v)] u = 2 := by unfold lm_ac; rw [if_neg (by omega)]; simp
  have wu : lm_aw w u [(2, w p), (3, v)] u = w p := by unfold lm_aw; rw [if_neg (by omega)]; simp
  obtain ⟨w1, w2, w3, w4, w5, w6, w7⟩ := hA
  have hne : u ≠ p := by have := hp.1; omega
  refine ⟨w1, w2, w3, w4, w5, fun z hz => ?_, fun z z' hz hz' k1 k2 e => ?_⟩
  · by_cases e : z = p
    · subst e
      refine Or.inr ⟨by rw [lm_up_eq], by rw [cl z hp.1]; exact hlt, u, by rw [lm_up_eq], hp.1, by omega, cu, ?_, fun j hj => ?_⟩
      · rw [lm_up_ne hne, wu]; exact hp.2.2
      · rw [cl j (by omega)]
        intro h0
        have := h.2.2.1 j (by omega) h0
        omega
    · rw [lm_up_ne e]
      rcases w6 z hz with a | ⟨a1, a2, q, a3, a4, a5, a6, a7, a8⟩
      · exact Or.inl a
      · refine Or.inr ?_
        unfold lm_mv
        rw [lm_up_ne e]
        refine ⟨a1, a2, q, a3, a4, a5, a6, ?_, a8⟩
        by_cases e2 : q = p
        · subst e2
          rw [cl q hp.1] at a6
          exact absurd a6 hc
        · rw [lm_up_ne e2]; exact a7
  · -- no other word is moved to u
    have hold : ∀ z, z < u + 2 → z ≠ p → (lm_aw w u [(2, w p), (3, v)] z).1 = 3 → z < u ∧ ∃ q : Nat, (lm_aw w u [(2, w p), (3, v)] z).2 = (q : Int) ∧ q < u := by
      intro z hz hzp hk
      rcases w6 z hz with a | ⟨a1, a2, q, a3, a4, a5, a6, a7, a8⟩
      · have := lm_ok_kind a; omega
      · have hzu : z < u := by
          apply Classical.byContradiction
          intro hno
          rcases (show z = u ∨ z = u + 1 by omega) with e | e
          · subst e; rw [wu] at hk; exact hp.2.2 hk
          · subst e
            have : lm_aw w u [(2, w p), (3, v)] (u + 1) = v := by unfold lm_aw; rw [if_neg (by omega)]; simp
            rw [this] at hk
            have := lm_ok_kind hv
            omega
        refine ⟨hzu, ?_⟩
        rw [wl z hzu] at hk ⊢
        rcases h.2.2.2.2.2.1 z hzu with b | ⟨b1, b2, q', b3, b4, b5, -⟩
        · have := lm_ok_kind b; omega
        · exact ⟨q', b3, b5⟩
    by_cases n1 : z = p
    · by_cases n2 : z' = p
      · rw [n1, n2]
      · exfalso
        subst n1
        rw [lm_up_ne n2] at k2 e
        rw [lm_up_eq] at e
        obtain ⟨-, q, hq, hq2⟩ := hold z' hz' n2 k2
        rw [hq] at e
        have e : ((u : Nat) : Int) = (q : Int) := e
        omega
    · by_cases n2 : z' = p
      · exfalso
        subst n2
        rw [lm_up_ne n1] at k1 e
        rw [lm_up_eq] at e
        obtain ⟨-, q, hq, hq2⟩ := hold z hz n1 k1
        rw [hq] at e
        have e : ((q : Nat) : Int) = (u : Int) := e
        omega
      · rw [lm_up_ne n1] at k1 e
        rw [lm_up_ne n2] at k2 e
        exact w7 z z' hz hz' k1 k2 e
end
section
/-! A content as the class holds it: one long, the body above the kind -/
def en (v : lm_V) : Int64 := Int64.ofInt (4 * v.2 + (v.1 : Int))
def en_in (v : lm_V) : Prop := v.1 < 4 ∧ -288230376151711744 ≤ v.2 ∧ v.2 ≤ 288230376151711743
theorem en_of {c : Nat → Nat} {u : Nat} {v : lm_V} (hu : u ≤ 120) (h : lm_ok c u v) : en_in v := by
  rcases h with a | a | ⟨a, q, b, d, -⟩ <;> refine ⟨by omega, by omega, by omega⟩
theorem en_nat (v : lm_V) : (en v).toBitVec.toNat = ((4 * v.2 + (v.1 : Int)) % 18446744073709551616).toNat := by
  unfold en
  rw [Int64.toBitVec_ofInt, BitVec.toNat_ofInt]
  rfl
theorem en_int {v : lm_V} (h : en_in v) : (en v).toInt = 4 * v.2 + (v.1 : Int) := by
  obtain ⟨h1, h2, h3⟩ := h
  unfold en
  exact Int64.toInt_ofInt_of_le (by omega) (by omega)
theorem en_and {v : lm_V} (h : v.1 < 4) : en v &&& 3 = lN v.1 := by
  apply Int64.toBitVec_inj.1
  apply BitVec.eq_of_toNat_eq
  have h1 : (en v &&& 3).toBitVec.toNat = (en v).toBitVec.toNat % 4 := by
    show ((en v).toBitVec &&& (3#64)).toNat = _
    rw [BitVec.toNat_and]
    show _ &&& (2 ^ 2 - 1) = _
    rw [Nat.and_two_pow_sub_one_eq_mod]
  rw [h1, en_nat]
  show _ = (BitVec.ofNat 64 v.1).toNat
  rw [BitVec.toNat_ofNat]
  omega
theorem en_kind {v : lm_V} (h : v.1 < 4) : (en v &&& 3).toInt32 = nI v.1 := by rw [en_and h, lN_i]
theorem en_sh2 : ((2 : Int32).toInt64 &&& 63) = 2 := by decide +kernel
theorem en_body {v : lm_V} (h : en_in v) : en v >>> ((2 : Int32).toInt64 &&& 63) = Int64.ofInt v.2 := by
  rw [en_sh2]
  apply Int64.toInt_inj.1
  have h1 : (en v >>> (2 : Int64)).toInt = (en v).toInt >>> 2 := by
    show ((en v).toBitVec.sshiftRight' ((2 : Int64).toBitVec.smod 64)).toInt = _
    rw [show ((2 : Int64).toBitVec.smod 64) = 2#64 by decide +kernel, BitVec.toInt_sshiftRight']
    rfl
  obtain ⟨h2, h3, h4⟩ := id h
  rw [h1, en_int h, Int64.toInt_ofInt_of_le (by omega) (by omega), Int.shiftRight_eq_div_pow]
  omega
theorem en_mk {k : Nat} {b : Int} {x : Int64} (hk : k < 4) (hx : x = Int64.ofInt b) : (x <<< ((2 : Int32).toInt64 &&& 63)) ||| lN k = en (k, b) := by
  subst hx
  rw [en_sh2]
  apply Int64.toBitVec_inj.1
  apply BitVec.eq_of_toNat_eq
  rw [en_nat]
  have h1 : ((Int64.ofInt b <<< (2 : Int64)) ||| lN k).toBitVec.toNat = ((BitVec.ofInt 64 b) <<< 2).toNat ||| k := by
    show (((BitVec.ofInt 64 b) <<< ((2 : Int64).toBitVec.smod 64)) ||| (BitVec.ofNat 64 k)).toNat = _
    rw [show ((2 : Int64).toBitVec.smod 64) = 2#64 by decide +kernel, BitVec.toNat_or, BitVec.toNat_ofNat, Nat.mod_eq_of_lt (by omega)]
    rfl
  rw [h1, BitVec.toNat_shiftLeft, BitVec.toNat_ofInt, Nat.shiftLeft_eq]
  have h2 : ((b % ((2 ^ 64 : Nat) : Int)).toNat * 2 ^ 2) % 2 ^ 64 = 2 ^ 2 * ((b % ((2 ^ 64 : Nat) : Int)).toNat % 2 ^ 62) := by omega
  rw [h2, ← Nat.two_pow_add_eq_or_of_lt (by omega)]
  show 2 ^ 2 * ((b % ((2 ^ 64 : Nat) : Int)).toNat % 2 ^ 62) + k = ((4 * b + (k : Int)) % 18446744073709551616).toNat
  omega
theorem en_inj {v v' : lm_V} (h : en_in v) (h' : en_in v') : en v = en v' ↔ v = v' := by
  constructor
  · intro e
    have e1 := congrArg Int64.toInt e
    rw [en_int h, en_int h'] at e1
    obtain ⟨a1, a2, a3⟩ := h
    obtain ⟨b1, b2, b3⟩ := h'
    obtain ⟨k, b⟩ := v
    obtain ⟨k', b'⟩ := v'
    simp only at *
    have : k = k' := by omega
    have : b = b' := by omega
    subst_vars
    rfl
  · intro e; rw [e]
theorem en_0 : en (0, 0) = 0 := by decide +kernel
/-! What the questions answer -/
def lm_len (c : Nat → Nat) (w : Nat → lm_V) : Nat → Nat → lm_V → Int
  | 0, _, _ => -2
  | f + 1, n, v => if v.1 = 2 then lm_len c w f (n + 1) (lm_rest c w (lm_to w v)) else if v.1 = 0 then (n : Int) else -1
/-- words: S: the cells counted already -/
def lm_wds (c : Nat → Nat) (w : Nat → lm_V) : Nat → List Nat → lm_V → Nat → Nat
  | 0, _, _, n => n
  | f + 1, S, v, n => if v.1 = 2 ∧ lm_to w v ∉ S then lm_wds c w f (lm_to w v :: S) (lm_rest c w (lm_to w v)) (n + (if c (lm_to w v) = 2 then 2 else 1) + (if lm_to w v = v.2.toNat then 0 else 1)) else n
def lm_same (w : Nat → lm_V) (a b : lm_V) : Bool := if a.1 = 2 ∧ b.1 = 2 then decide (lm_to w a = lm_to w b) else decide (a = b)
/-- alike: pairs set against one another: forth, back, those that wait -/
abbrev lm_M : Type := (Nat → Option Nat) × (Nat → Option Nat) × List Nat
def lm_fit (w : Nat → lm_V) (m : lm_M) (a b : lm_V) : lm_M × Bool :=
  if a.1 = 2 ∧ b.1 = 2 then
    if m.1 (lm_to w a) = none ∧ m.2.1 (lm_to w b) = none then ((lm_mark m.1 (lm_to w a) (lm_to w b), lm_mark m.2.1 (lm_to w b) (lm_to w a), m.2.2 ++ [lm_to w a]), true)
    else (m, decide (m.1 (lm_to w a) = some (lm_to w b)))
  else (m, decide (a = b))
def lm_pair (c : Nat → Nat) (w : Nat → lm_V) (m : lm_M) (p q : Nat) : lm_M × Bool :=
  if (lm_fit w m (w p) (w q)).2 = true then lm_fit w (lm_fit w m (w p) (w q)).1 (lm_rest c w p) (lm_rest c w q) else lm_fit w m (w p) (w q)
def lm_alk (c : Nat → Nat) (w : Nat → lm_V) : Nat → Nat → lm_M → Bool
  | 0, _, _ => true
  | f + 1, i, m => if i < m.2.2.length then
      if (lm_pair c w m (m.2.2.getD i 0) ((m.1 (m.2.2.getD i 0)).getD 0)).2 = true then lm_alk c w f (i + 1) (lm_pair c w m (m.2.2.getD i 0) ((m.1 (m.2.2.getD i 0)).getD 0)).1 else false
    else true
def lm_alike (c : Nat → Nat) (w : Nat → lm_V) (a b : lm_V) : Bool :=
  if (lm_fit w (fun _ => none, fun _ => none, []) a b).2 = true then lm_alk c w 120 0 (lm_fit w (fun _ => none, fun _ => none, []) a b).1 else false
/-- those that are set: forth and back agree, all are cells, each waits once -/
def lm_mok (c : Nat → Nat) (w : Nat → lm_V) (u : Nat) (m : lm_M) : Prop :=
  lm_gd c w u m.2.2 ∧ (∀ p, p ∈ m.2.2 ↔ m.1 p ≠ none) ∧ (∀ p q, m.1 p = some q ↔ m.2.1 q = some p) ∧ ∀ p q, m.1 p = some q → lm_cl c w u q
theorem lm_fit_ok {c : Nat → Nat} {w : Nat → lm_V} {u : Nat} (h : lm_wf c w u) {m : lm_M} {a b : lm_V} (hm : lm_mok c w u m) (ha : lm_ok c u a) (hb : lm_ok c u b) : lm_mok c w u (lm_fit w m a b).1 ∧ ∃ M, (lm_fit w m a b).1.2.2 = m.2.2 ++ M := by
  unfold lm_fit
  by_cases e : a.1 = 2 ∧ b.1 = 2
  · rw [if_pos e]
    by_cases e2 : m.1 (lm_to w a) = none ∧ m.2.1 (lm_to w b) = none
    · rw [if_pos e2]
      obtain ⟨⟨m1, m2⟩, m3, m4, m5⟩ := hm
      have ca := lm_to_cl h ha e.1
      have cb := lm_to_cl h hb e.2
      have hno : lm_to w a ∉ m.2.2 := fun q => (m3 _).mp q e2.1
      refine ⟨⟨⟨?_, fun p hp => ?_⟩, fun p => ?_, fun p q => ?_, fun p q hq => ?_⟩, _, rfl⟩
      · rw [List.nodup_append]
        refine ⟨m1, by simp, ?_⟩
        intro x hx y hy
        simp only [List.mem_singleton] at hy
        subst hy
        intro z
        exact hno (z ▸ hx)
      · rcases List.mem_append.mp hp with z | z
        · exact m2 p z
        · rw [List.mem_singleton] at z; subst z; exact ca
      · show p ∈ m.2.2 ++ [lm_to w a] ↔ lm_mark m.1 (lm_to w a) (lm_to w b) p ≠ none
        rw [List.mem_append, List.mem_singleton, m3 p, Ne, Ne, lm_mark_eq]
        by_cases z : p = lm_to w a <;> simp [z]
      · show lm_mark m.1 (lm_to w a) (lm_to w b) p = some q ↔ lm_mark m.2.1 (lm_to w b) (lm_to w a) q = some p
        unfold lm_mark
        by_cases z1 : p = lm_to w a
        · by_cases z2 : q = lm_to w b
          · simp [z1, z2]
          · rw [if_pos z1, if_neg z2, ← m4 p q]
            constructor
            · intro z; exact absurd (Option.some.inj z).symm z2
            · intro z; rw [z1, e2.1] at z; cases z
        · by_cases z2 : q = lm_to w b
          · rw [if_neg z1, if_pos z2, m4 p q]
            constructor
            · intro z; rw [z2, e2.2] at z; cases z
            · intro z; exact absurd (Option.some.inj z).symm z1
          · rw [if_neg z1, if_neg z2]; exact m4 p q
      · have hq : lm_mark m.1 (lm_to w a) (lm_to w b) p = some q := hq
        unfold lm_mark at hq
        by_cases z : p = lm_to w a
        · rw [if_pos z] at hq
          rw [← Option.some.inj hq]; exact cb
        · rw [if_neg z] at hq; exact m5 p q hq
    · rw [if_neg e2]; exact ⟨hm, [], by simp⟩
  · rw [if_neg e]; exact ⟨hm, [], by simp⟩
/-- the same is alike: each cell is set against itself -/
def lm_id (m : lm_M) : Prop := ∀ p, (m.1 p = none ∨ m.1 p = some p) ∧ m.2.1 p = m.1 p
theorem lm_fit_id {w : Nat → lm_V} {m : lm_M} (hm : lm_id m) {a b : lm_V} (hab : a = b ∨ (a.1 = 2 ∧ b.1 = 2 ∧ lm_to w a = lm_to w b)) : lm_id (lm_fit w m a b).1 ∧ (lm_fit w m a b).2 = true := by
  unfold lm_fit
  by_cases e : a.1 = 2 ∧ b.1 = 2
  · rw [if_pos e]
    have ht : lm_to w a = lm_to w b := by
      rcases hab with z | z
      · rw [z]
      · exact z.2.2
    rw [← ht]
    by_cases e2 : m.1 (lm_to w a) = none ∧ m.2.1 (lm_to w a) = none
    · rw [if_pos e2]
      refine ⟨fun p => ?_, rfl⟩
      show (lm_mark m.1 (lm_to w a) (lm_to w a) p = none ∨ lm_mark m.1 (lm_to w a) (lm_to w a) p = some p) ∧ lm_mark m.2.1 (lm_to w a) (lm_to w a) p = lm_mark m.1 (lm_to w a) (lm_to w a) p
      unfold lm_mark
      by_cases z : p = lm_to w a
      · rw [if_pos z, if_pos z]; exact ⟨Or.inr (by rw [z]), rfl⟩
      · rw [if_neg z, if_neg z]; exact hm p
    · rw [if_neg e2]
      refine ⟨hm, ?_⟩
      obtain ⟨h1, h2⟩ := hm (lm_to w a)
      rcases h1 with z | z
      · exact absurd ⟨z, h2.trans z⟩ e2
      · simp [z]
  · rw [if_neg e]
    rcases hab with z | z
    · exact ⟨hm, by simp [z]⟩
    · exact absurd ⟨z.1, z.2.1⟩ e
theorem lm_alk_id {c : Nat → Nat} {w : Nat → lm_V} : ∀ (f i : Nat) (m : lm_M), lm_id m → (∀ p, p ∈ m.2.2 → m.1 p ≠ none) → (∀ m a b, lm_id m → (∀ p, p ∈ m.2.2 → m.1 p ≠ none) → ∀ p, p ∈ (lm_fit w m a b).1.2.2 → (lm_fit w m a b).1.1 p ≠ none) → lm_alk c w f i m = true := by
  intro f
  induction f with
  | zero => intro i m _ _ _; rfl
  | succ f ih =>
    intro i m hm hw hk
    unfold lm_alk
    by_cases e : i < m.2.2.length
    · rw [if_pos e]
      have hin : m.2.2.getD i 0 ∈ m.2.2 := by
        rw [List.getD_eq_getElem?_getD, List.getElem?_eq_getElem e]; simp
      have hs : (m.1 (m.2.2.getD i 0)).getD 0 = m.2.2.getD i 0 := by
        rcases (hm (m.2.2.getD i 0)).1 with z | z
        · exact absurd z (hw _ hin)
        · rw [z]; rfl
      rw [hs]
      generalize m.2.2.getD i 0 = p
      obtain ⟨a1, a2⟩ := lm_fit_id (w := w) hm (a := w p) (b := w p) (Or.inl rfl)
      obtain ⟨b1, b2⟩ := lm_fit_id (w := w) a1 (a := lm_rest c w p) (b := lm_rest c w p) (Or.inl rfl)
      have hp : lm_pair c w m p p = lm_fit w (lm_fit w m (w p) (w p)).1 (lm_rest c w p) (lm_rest c w p) := by unfold lm_pair; rw [if_pos a2]
      rw [hp, if_pos b2]
      exact ih _ _ b1 (hk _ _ _ a1 (hk _ _ _ hm hw)) hk
    · rw [if_neg e]
theorem lm_fit_wait {w : Nat → lm_V} {m : lm_M} {a b : lm_V} (h : ∀ p, p ∈ m.2.2 → m.1 p ≠ none) : ∀ p, p ∈ (lm_fit w m a b).1.2.2 → (lm_fit w m a b).1.1 p ≠ none := by
  unfold lm_fit
  by_cases e : a.1 = 2 ∧ b.1 = 2
  · rw [if_pos e]
    by_cases e2 : m.1 (lm_to w a) = none ∧ m.2.1 (lm_to w b) = none
    · rw [if_pos e2]
      intro p hp
      show lm_mark m.1 (lm_to w a) (lm_to w b) p ≠ none
      rw [Ne, lm_mark_eq]
      rcases List.mem_append.mp hp with z | z
      · intro q; exact h p z q.2
      · rw [List.mem_singleton] at z; intro q; exact q.1 z
    · rw [if_neg e2]; exact h
  · rw [if_neg e]; exact h
theorem lm_alike_same {c : Nat → Nat} {w : Nat → lm_V} {a b : lm_V} (h : lm_same w a b = true) : lm_alike c w a b = true := by
  have hab : a = b ∨ (a.1 = 2 ∧ b.1 = 2 ∧ lm_to w a = lm_to w b) := by
    unfold lm_same at h
    by_cases e : a.1 = 2 ∧ b.1 = 2
    · rw [if_pos e] at h; exact Or.inr ⟨e.1, e.2, by simpa using h⟩
    · rw [if_neg e] at h; exact Or.inl (by simpa using h)
  have h0 : lm_id (fun _ => none, fun _ => none, []) := fun p => ⟨Or.inl rfl, rfl⟩
  obtain ⟨a1, a2⟩ := lm_fit_id (w := w) h0 hab
  unfold lm_alike
  rw [if_pos a2]
  exact lm_alk_id _ _ _ a1 (lm_fit_wait (fun p hp => (by cases hp))) (fun m a b _ hw => lm_fit_wait hw)
end
section
/-! Numbers as the walks speak of them: jI: a long by its integer; oI: a place or -1; bI: a boolean -/
def jI (b : Int) : Int64 := Int64.ofInt b
def oI (o : Option Nat) : Int32 := match o with | none => -1 | some n => nI n
def bI (x : Bool) : Int32 := if x = true then nI 1 else nI 0
theorem jI_add (a b : Int) : jI a + jI b = jI (a + b) := (Int64.ofInt_add a b).symm
theorem jI_int {a : Int} (h : -4611686018427387904 ≤ a ∧ a ≤ 4611686018427387904) : (jI a).toInt = a := Int64.toInt_ofInt_of_le (by omega) (by omega)
theorem jI_lt {a b : Int} (ha : -4611686018427387904 ≤ a ∧ a ≤ 4611686018427387904) (hb : -4611686018427387904 ≤ b ∧ b ≤ 4611686018427387904) : jI a < jI b ↔ a < b := by
  rw [Int64.lt_iff_toInt_lt, jI_int ha, jI_int hb]
theorem jI_eq {a b : Int} (ha : -4611686018427387904 ≤ a ∧ a ≤ 4611686018427387904) (hb : -4611686018427387904 ≤ b ∧ b ≤ 4611686018427387904) : jI a = jI b ↔ a = b := by
  rw [← Int64.toInt_inj, jI_int ha, jI_int hb]
theorem jI_lN (n : Nat) : jI (n : Int) = lN n := by
  unfold jI lN
  rfl
theorem jI_i2l {n : Nat} (h : n < 2 ^ 31) : (nI n).toInt64 = jI (n : Int) := by rw [nI_l h, jI_lN]
theorem jI_l2i (n : Nat) : (jI (n : Int)).toInt32 = nI n := by rw [jI_lN, lN_i]
theorem k_inc (a : Nat) : nI a + Int32.ofInt 1 = nI (a + 1) := by
  rw [show Int32.ofInt 1 = (1 : Int32) by decide +kernel]; exact nI_1 a
theorem kc_m1 : Int32.ofInt (-1) = (-1) := by decide +kernel
theorem kc_0 : Int32.ofInt 0 = nI 0 := by decide +kernel
theorem kc_1 : Int32.ofInt 1 = nI 1 := by decide +kernel
theorem kc_2 : Int32.ofInt 2 = nI 2 := by decide +kernel
theorem kc_3 : Int32.ofInt 3 = nI 3 := by decide +kernel
theorem kc_4 : Int32.ofInt 4 = nI 4 := by decide +kernel
theorem kc_5 : Int32.ofInt 5 = nI 5 := by decide +kernel
theorem kb_9 : (Int8.ofInt 9).toInt32 = nI 9 := by decide +kernel
theorem kb_10 : (Int8.ofInt 10).toInt32 = nI 10 := by decide +kernel
theorem kb_31 : (Int8.ofInt 31).toInt32 = nI 31 := by decide +kernel
theorem kb_32 : (Int8.ofInt 32).toInt32 = nI 32 := by decide +kernel
theorem kb_120 : (Int8.ofInt 120).toInt32 = nI 120 := by decide +kernel
theorem kl_0 : Int64.ofNat ((0 : Fin 2) : Nat) = jI 0 := by decide +kernel
theorem kl_1 : Int64.ofNat ((1 : Fin 2) : Nat) = jI 1 := by decide +kernel
theorem oI_none {o : Option Nat} (h : ∀ n, o = some n → n < 2 ^ 31) : oI o = -1 ↔ o = none := by
  cases o with
  | none => simp [oI]
  | some n =>
    have h1 := nI_toInt (h n rfl)
    constructor
    · intro q
      have q : nI n = -1 := q
      rw [q] at h1
      have h2 : (-1 : Int32).toInt = -1 := by decide +kernel
      omega
    · intro q; cases q
theorem oI_some {o : Option Nat} {n : Nat} (hn : n < 2 ^ 31) (h : ∀ k, o = some k → k < 2 ^ 31) : oI o = nI n ↔ o = some n := by
  cases o with
  | none =>
    constructor
    · intro q
      have q : (-1 : Int32) = nI n := q
      have h1 := nI_toInt hn
      rw [← q] at h1
      have h2 : (-1 : Int32).toInt = -1 := by decide +kernel
      omega
    · intro q; cases q
  | some k =>
    constructor
    · intro q
      have q : nI k = nI n := q
      rw [(nI_eq (h k rfl) hn).mp q]
    · intro q; cases q; rfl
theorem bI_0 {x : Bool} : bI x = nI 0 ↔ x = false := by cases x <;> decide +kernel
theorem bI_nar (x : Bool) : narrow .boolean (.int (bI x)) = .int (bI x) := by cases x <;> decide +kernel
theorem bI_vp (x : Bool) : vp_nar .boolean (bI x) = bI x := by cases x <;> decide +kernel
theorem en_kind2 {v : lm_V} (h : v.1 < 4) : (en v &&& jI 3).toInt32 = nI v.1 := en_kind h
theorem en_sh2' : ((nI 2).toInt64 &&& 63) = ((2 : Int32).toInt64 &&& 63) := by decide +kernel
theorem en_body2 {v : lm_V} (h : en_in v) : en v >>> ((nI 2).toInt64 &&& 63) = jI v.2 := by rw [en_sh2']; exact en_body h
theorem en_mk2 {k : Nat} {b : Int} (hk : k < 4) : (jI b <<< ((nI 2).toInt64 &&& 63)) ||| jI ((k : Nat) : Int) = en (k, b) := by
  rw [en_sh2', jI_lN]; exact en_mk hk rfl
theorem lm_upu (f : Nat → Int32) (k : Nat) (x : Int32) : upd f k x = lm_up f k x := rfl
theorem kb_m2 : (Int8.ofInt (-2)).toInt32 = (-2) := by decide +kernel
end
section
/-! one list of words for all methods -/
def lm_T : List Cond := lw_tbl.filter goodWord
def lm_isN : Cond → Bool
  | .methodLinkNest _ _ _ _ => true
  | .fieldLinkNest _ _ _ _ _ _ => true
  | _ => false
def lm_N (U : State) : Prop := ∀ w ∈ lw_tbl, lm_isN w = true → va_Nw w U
theorem lm_N.warm {s U : State} (hW : s.WarmedH U.vm) (h : lm_N s) : lm_N U := by
  intro w hw hn
  have h1 := h w hw hn
  cases w <;> first | exact va_Nw.warmF hW h1 | exact va_Nw.warmM hW h1 | exact absurd hn (by simp [lm_isN])
theorem lm_N.same {u U : State} (hv : u.vm = U.vm) (h : lm_N u) : lm_N U := by
  intro w hw hn
  have h1 := h w hw hn
  cases w <;> first | exact va_Nw.same rfl hv h1 | exact absurd hn (by simp [lm_isN])
theorem lm_in {w : Cond} (k : Nat) (h : tables_1[k]? = some w) (hg : goodWord w = true) : w ∈ lm_T := List.mem_filter.mpr ⟨List.mem_append_right _ (List.mem_of_getElem? h), hg⟩
theorem lm_inS {w : Cond} (k : Nat) (h : (k2_sels lw_privs)[k]? = some w) (hg : goodWord w = true) : w ∈ lm_T := List.mem_filter.mpr ⟨List.mem_append_left _ (List.mem_of_getElem? h), hg⟩
theorem tb_34 : Cond.laysFinal RX0 "ListMemory$Collector" "listed" "[I" ∈ lm_T := lm_in 34 (by decide +kernel) (by decide +kernel)
theorem tb_36 : Cond.laysFinal RX0 "ListMemory$Collector" "isListed" "[I" ∈ lm_T := lm_in 36 (by decide +kernel) (by decide +kernel)
theorem tb_38 : Cond.laysFinal RX0 "ListMemory$Collector" "isRest" "[I" ∈ lm_T := lm_in 38 (by decide +kernel) (by decide +kernel)
theorem tb_40 : Cond.laysFinal RX0 "ListMemory$Collector" "newPlaces" "[I" ∈ lm_T := lm_in 40 (by decide +kernel) (by decide +kernel)
theorem tb_42 : Cond.lays RX0 "ListMemory$Collector" "many" "I" ∈ lm_T := lm_in 42 (by decide +kernel) (by decide +kernel)
theorem tb_77 : Cond.laysFinal RX1 "ListMemory$Half" "codes" "[I" ∈ lm_T := lm_in 77 (by decide +kernel) (by decide +kernel)
theorem tb_79 : Cond.laysFinal RX1 "ListMemory$Half" "contents" "[J" ∈ lm_T := lm_in 79 (by decide +kernel) (by decide +kernel)
theorem tb_81 : Cond.lays RX1 "ListMemory$Half" "taken" "I" ∈ lm_T := lm_in 81 (by decide +kernel) (by decide +kernel)
theorem tb_57 : Cond.laysFinal RX2 "ListMemory$Matching" "forth" "[I" ∈ lm_T := lm_in 57 (by decide +kernel) (by decide +kernel)
theorem tb_59 : Cond.laysFinal RX2 "ListMemory$Matching" "back" "[I" ∈ lm_T := lm_in 59 (by decide +kernel) (by decide +kernel)
theorem tb_61 : Cond.laysFinal RX2 "ListMemory$Matching" "waiting" "[I" ∈ lm_T := lm_in 61 (by decide +kernel) (by decide +kernel)
theorem tb_63 : Cond.lays RX2 "ListMemory$Matching" "many" "I" ∈ lm_T := lm_in 63 (by decide +kernel) (by decide +kernel)
theorem tb_91 : Cond.laysFinal RX3 "ListMemory" "roots" "[J" ∈ lm_T := lm_in 91 (by decide +kernel) (by decide +kernel)
theorem tb_93 : Cond.laysFinal RX3 "ListMemory" "collector" "LListMemory$Collector;" ∈ lm_T := lm_in 93 (by decide +kernel) (by decide +kernel)
theorem tb_95 : Cond.laysFinal RX3 "ListMemory" "matching" "LListMemory$Matching;" ∈ lm_T := lm_in 95 (by decide +kernel) (by decide +kernel)
theorem tb_97 : Cond.laysFinal RX3 "ListMemory" "counted" "[I" ∈ lm_T := lm_in 97 (by decide +kernel) (by decide +kernel)
theorem tb_99 : Cond.lays RX3 "ListMemory" "half" "LListMemory$Half;" ∈ lm_T := lm_in 99 (by decide +kernel) (by decide +kernel)
theorem tb_101 : Cond.lays RX3 "ListMemory" "otherHalf" "LListMemory$Half;" ∈ lm_T := lm_in 101 (by decide +kernel) (by decide +kernel)
theorem tb_103 : Cond.lays RX3 "ListMemory" "collections" "I" ∈ lm_T := lm_in 103 (by decide +kernel) (by decide +kernel)
theorem tb_552 : Cond.lays RX4 "ListMemoryModel" "thrown" "I" ∈ lm_T := lm_in 552 (by decide +kernel) (by decide +kernel)
theorem tb_554 : Cond.laysFinal RX4 "ListMemoryModel" "codes" "[I" ∈ lm_T := lm_in 554 (by decide +kernel) (by decide +kernel)
theorem tb_556 : Cond.laysFinal RX4 "ListMemoryModel" "kinds" "[I" ∈ lm_T := lm_in 556 (by decide +kernel) (by decide +kernel)
theorem tb_558 : Cond.laysFinal RX4 "ListMemoryModel" "contents" "[J" ∈ lm_T := lm_in 558 (by decide +kernel) (by decide +kernel)
theorem tb_560 : Cond.lays RX4 "ListMemoryModel" "used" "I" ∈ lm_T := lm_in 560 (by decide +kernel) (by decide +kernel)
theorem tb_562 : Cond.laysFinal RX4 "ListMemoryModel" "rootKinds" "[I" ∈ lm_T := lm_in 562 (by decide +kernel) (by decide +kernel)
theorem tb_564 : Cond.laysFinal RX4 "ListMemoryModel" "roots" "[J" ∈ lm_T := lm_in 564 (by decide +kernel) (by decide +kernel)
theorem tb_566 : Cond.lays RX4 "ListMemoryModel" "collections" "I" ∈ lm_T := lm_in 566 (by decide +kernel) (by decide +kernel)
theorem tb_568 : Cond.lays RX4 "ListMemoryModel" "kind" "I" ∈ lm_T := lm_in 568 (by decide +kernel) (by decide +kernel)
theorem tb_570 : Cond.lays RX4 "ListMemoryModel" "content" "J" ∈ lm_T := lm_in 570 (by decide +kernel) (by decide +kernel)
theorem tb_572 : Cond.laysFinal RX4 "ListMemoryModel" "listed" "[I" ∈ lm_T := lm_in 572 (by decide +kernel) (by decide +kernel)
theorem tb_574 : Cond.lays RX4 "ListMemoryModel" "many" "I" ∈ lm_T := lm_in 574 (by decide +kernel) (by decide +kernel)
theorem tb_576 : Cond.laysFinal RX4 "ListMemoryModel" "laid" "[I" ∈ lm_T := lm_in 576 (by decide +kernel) (by decide +kernel)
theorem tb_578 : Cond.laysFinal RX4 "ListMemoryModel" "newCodes" "[I" ∈ lm_T := lm_in 578 (by decide +kernel) (by decide +kernel)
theorem tb_580 : Cond.laysFinal RX4 "ListMemoryModel" "newKinds" "[I" ∈ lm_T := lm_in 580 (by decide +kernel) (by decide +kernel)
theorem tb_582 : Cond.laysFinal RX4 "ListMemoryModel" "newContents" "[J" ∈ lm_T := lm_in 582 (by decide +kernel) (by decide +kernel)
theorem tb_584 : Cond.lays RX4 "ListMemoryModel" "next" "I" ∈ lm_T := lm_in 584 (by decide +kernel) (by decide +kernel)
theorem tb_586 : Cond.laysFinal RX4 "ListMemoryModel" "against" "[I" ∈ lm_T := lm_in 586 (by decide +kernel) (by decide +kernel)
theorem tb_588 : Cond.laysFinal RX4 "ListMemoryModel" "back" "[I" ∈ lm_T := lm_in 588 (by decide +kernel) (by decide +kernel)
theorem tb_590 : Cond.laysFinal RX4 "ListMemoryModel" "todo" "[I" ∈ lm_T := lm_in 590 (by decide +kernel) (by decide +kernel)
theorem tb_592 : Cond.laysFinal RX4 "ListMemoryModel" "seen" "[Z" ∈ lm_T := lm_in 592 (by decide +kernel) (by decide +kernel)
theorem tb_132 : Cond.constantLong RX3 156 (jI 3) ∈ lm_T := lm_in 132 (by decide +kernel) (by decide +kernel)
theorem tb_140 : Cond.constantLong RX3 158 (jI 120) ∈ lm_T := lm_in 140 (by decide +kernel) (by decide +kernel)
theorem tb_30 : Cond.fieldLink RX0 15 "ListMemory$Collector" "isListed" "[I" ∈ lm_T := lm_in 30 (by decide +kernel) (by decide +kernel)
theorem tb_31 : Cond.fieldLink RX0 18 "ListMemory$Collector" "isRest" "[I" ∈ lm_T := lm_in 31 (by decide +kernel) (by decide +kernel)
theorem tb_32 : Cond.fieldLink RX0 21 "ListMemory$Collector" "newPlaces" "[I" ∈ lm_T := lm_in 32 (by decide +kernel) (by decide +kernel)
theorem tb_33 : Cond.fieldLink RX0 24 "ListMemory$Collector" "many" "I" ∈ lm_T := lm_in 33 (by decide +kernel) (by decide +kernel)
theorem tb_75 : Cond.fieldLinkNest RX0 58 "ListMemory$Half" "taken" "I" "ListMemory" ∈ lw_tbl := List.mem_append_right _ (List.mem_of_getElem? (i := 75) (by decide +kernel))
theorem tb_29 : Cond.fieldLink RX0 9 "ListMemory$Collector" "listed" "[I" ∈ lm_T := lm_in 29 (by decide +kernel) (by decide +kernel)
theorem tb_73 : Cond.fieldLink RX1 15 "ListMemory$Half" "contents" "[J" ∈ lm_T := lm_in 73 (by decide +kernel) (by decide +kernel)
theorem tb_74 : Cond.fieldLink RX1 19 "ListMemory$Half" "taken" "I" ∈ lm_T := lm_in 74 (by decide +kernel) (by decide +kernel)
theorem tb_72 : Cond.fieldLink RX1 9 "ListMemory$Half" "codes" "[I" ∈ lm_T := lm_in 72 (by decide +kernel) (by decide +kernel)
theorem tb_54 : Cond.fieldLink RX2 15 "ListMemory$Matching" "back" "[I" ∈ lm_T := lm_in 54 (by decide +kernel) (by decide +kernel)
theorem tb_55 : Cond.fieldLink RX2 18 "ListMemory$Matching" "waiting" "[I" ∈ lm_T := lm_in 55 (by decide +kernel) (by decide +kernel)
theorem tb_56 : Cond.fieldLink RX2 21 "ListMemory$Matching" "many" "I" ∈ lm_T := lm_in 56 (by decide +kernel) (by decide +kernel)
theorem tb_53 : Cond.fieldLink RX2 9 "ListMemory$Matching" "forth" "[I" ∈ lm_T := lm_in 53 (by decide +kernel) (by decide +kernel)
theorem tb_85 : Cond.fieldLink RX3 16 "ListMemory" "collector" "LListMemory$Collector;" ∈ lm_T := lm_in 85 (by decide +kernel) (by decide +kernel)
theorem tb_87 : Cond.fieldLink RX3 27 "ListMemory" "counted" "[I" ∈ lm_T := lm_in 87 (by decide +kernel) (by decide +kernel)
theorem tb_88 : Cond.fieldLink RX3 34 "ListMemory" "half" "LListMemory$Half;" ∈ lm_T := lm_in 88 (by decide +kernel) (by decide +kernel)
theorem tb_89 : Cond.fieldLink RX3 38 "ListMemory" "otherHalf" "LListMemory$Half;" ∈ lm_T := lm_in 89 (by decide +kernel) (by decide +kernel)
theorem tb_90 : Cond.fieldLink RX3 41 "ListMemory" "collections" "I" ∈ lm_T := lm_in 90 (by decide +kernel) (by decide +kernel)
theorem tb_76 : Cond.fieldLinkNest RX3 77 "ListMemory$Half" "taken" "I" "ListMemory" ∈ lw_tbl := List.mem_append_right _ (List.mem_of_getElem? (i := 76) (by decide +kernel))
theorem tb_84 : Cond.fieldLink RX3 9 "ListMemory" "roots" "[J" ∈ lm_T := lm_in 84 (by decide +kernel) (by decide +kernel)
theorem tb_533 : Cond.fieldLink RX4 13 "ListMemoryModel" "kinds" "[I" ∈ lm_T := lm_in 533 (by decide +kernel) (by decide +kernel)
theorem tb_534 : Cond.fieldLink RX4 16 "ListMemoryModel" "contents" "[J" ∈ lm_T := lm_in 534 (by decide +kernel) (by decide +kernel)
theorem tb_536 : Cond.fieldLink RX4 20 "ListMemoryModel" "rootKinds" "[I" ∈ lm_T := lm_in 536 (by decide +kernel) (by decide +kernel)
theorem tb_537 : Cond.fieldLink RX4 23 "ListMemoryModel" "roots" "[J" ∈ lm_T := lm_in 537 (by decide +kernel) (by decide +kernel)
theorem tb_541 : Cond.fieldLink RX4 26 "ListMemoryModel" "listed" "[I" ∈ lm_T := lm_in 541 (by decide +kernel) (by decide +kernel)
theorem tb_543 : Cond.fieldLink RX4 29 "ListMemoryModel" "laid" "[I" ∈ lm_T := lm_in 543 (by decide +kernel) (by decide +kernel)
theorem tb_544 : Cond.fieldLink RX4 32 "ListMemoryModel" "newCodes" "[I" ∈ lm_T := lm_in 544 (by decide +kernel) (by decide +kernel)
theorem tb_545 : Cond.fieldLink RX4 35 "ListMemoryModel" "newKinds" "[I" ∈ lm_T := lm_in 545 (by decide +kernel) (by decide +kernel)
theorem tb_546 : Cond.fieldLink RX4 38 "ListMemoryModel" "newContents" "[J" ∈ lm_T := lm_in 546 (by decide +kernel) (by decide +kernel)
theorem tb_551 : Cond.fieldLink RX4 50 "ListMemoryModel" "seen" "[Z" ∈ lm_T := lm_in 551 (by decide +kernel) (by decide +kernel)
theorem tb_531 : Cond.fieldLink RX4 54 "ListMemoryModel" "thrown" "I" ∈ lm_T := lm_in 531 (by decide +kernel) (by decide +kernel)
theorem tb_539 : Cond.fieldLink RX4 58 "ListMemoryModel" "kind" "I" ∈ lm_T := lm_in 539 (by decide +kernel) (by decide +kernel)
theorem tb_540 : Cond.fieldLink RX4 61 "ListMemoryModel" "content" "J" ∈ lm_T := lm_in 540 (by decide +kernel) (by decide +kernel)
theorem tb_532 : Cond.fieldLink RX4 7 "ListMemoryModel" "codes" "[I" ∈ lm_T := lm_in 532 (by decide +kernel) (by decide +kernel)
theorem tb_535 : Cond.fieldLink RX4 73 "ListMemoryModel" "used" "I" ∈ lm_T := lm_in 535 (by decide +kernel) (by decide +kernel)
theorem tb_542 : Cond.fieldLink RX4 79 "ListMemoryModel" "many" "I" ∈ lm_T := lm_in 542 (by decide +kernel) (by decide +kernel)
theorem tb_547 : Cond.fieldLink RX4 82 "ListMemoryModel" "next" "I" ∈ lm_T := lm_in 547 (by decide +kernel) (by decide +kernel)
theorem tb_538 : Cond.fieldLink RX4 93 "ListMemoryModel" "collections" "I" ∈ lm_T := lm_in 538 (by decide +kernel) (by decide +kernel)
theorem tb_28 : Cond.methodLink RX0 3 objectInit ∈ lm_T := lm_in 28 (by decide +kernel) (by decide +kernel)
theorem tb_71 : Cond.methodLink RX1 3 objectInit ∈ lm_T := lm_in 71 (by decide +kernel) (by decide +kernel)
theorem tb_52 : Cond.methodLink RX2 3 objectInit ∈ lm_T := lm_in 52 (by decide +kernel) (by decide +kernel)
theorem tc_J_fill : Cond.code yJ_fill cJ_fill 4 none ∈ lm_T := lm_in 124 (by decide +kernel) (by decide +kernel)
theorem tb_11 : Cond.initialized "java/util/Arrays" ∈ lm_T := lm_in 11 (by decide +kernel) (by decide +kernel)
theorem tb_122 : Cond.methodLink RX0 28 yJ_fill ∈ lm_T := lm_in 122 (by decide +kernel) (by decide +kernel)
theorem tb_123 : Cond.static yJ_fill ∈ lm_T := lm_in 123 (by decide +kernel) (by decide +kernel)
theorem tb_487 : Cond.methodLink RX2 25 yJ_fill ∈ lm_T := lm_in 487 (by decide +kernel) (by decide +kernel)
theorem tc_X3_kindOf : Cond.code yX3_kindOf cX3_kindOf 2 (some .int) ∈ lm_T := lm_in 131 (by decide +kernel) (by decide +kernel)
theorem tb_1 : Cond.initialized "ListMemory" ∈ lm_T := lm_in 1 (by decide +kernel) (by decide +kernel)
theorem tb_368 : Cond.methodLink RX3 118 yX3_kindOf ∈ lm_T := lm_in 368 (by decide +kernel) (by decide +kernel)
theorem tb_130 : Cond.static yX3_kindOf ∈ lm_T := lm_in 130 (by decide +kernel) (by decide +kernel)
theorem tb_474 : Cond.methodLink RX3 190 yJ_fill ∈ lm_T := lm_in 474 (by decide +kernel) (by decide +kernel)
theorem tc_X3_placeOf : Cond.code yX3_placeOf cX3_placeOf 4 (some .int) ∈ lm_T := lm_in 139 (by decide +kernel) (by decide +kernel)
theorem tb_475 : Cond.methodLink RX3 196 yX3_placeOf ∈ lm_T := lm_in 475 (by decide +kernel) (by decide +kernel)
theorem tb_138 : Cond.static yX3_placeOf ∈ lm_T := lm_in 138 (by decide +kernel) (by decide +kernel)
theorem tb_129 : Cond.methodLinkNest RX0 47 yX3_kindOf "ListMemory" ∈ lw_tbl := List.mem_append_right _ (List.mem_of_getElem? (i := 129) (by decide +kernel))
theorem tc_X3_content : Cond.code yX3_content cX3_content 3 (some .long) ∈ lm_T := lm_in 156 (by decide +kernel) (by decide +kernel)
theorem tb_183 : Cond.methodLinkNest RX0 77 yX3_content "ListMemory" ∈ lw_tbl := List.mem_append_right _ (List.mem_of_getElem? (i := 183) (by decide +kernel))
theorem tb_155 : Cond.static yX3_content ∈ lm_T := lm_in 155 (by decide +kernel) (by decide +kernel)
theorem tb_137 : Cond.methodLinkNest RX1 27 yX3_placeOf "ListMemory" ∈ lw_tbl := List.mem_append_right _ (List.mem_of_getElem? (i := 137) (by decide +kernel))
theorem tb_145 : Cond.methodLinkNest RX1 35 yX3_kindOf "ListMemory" ∈ lw_tbl := List.mem_append_right _ (List.mem_of_getElem? (i := 145) (by decide +kernel))
theorem tb_154 : Cond.methodLinkNest RX1 42 yX3_content "ListMemory" ∈ lw_tbl := List.mem_append_right _ (List.mem_of_getElem? (i := 154) (by decide +kernel))
theorem tb_492 : Cond.methodLinkNest RX2 44 yX3_kindOf "ListMemory" ∈ lw_tbl := List.mem_append_right _ (List.mem_of_getElem? (i := 492) (by decide +kernel))
theorem tc_X0_listPair : Cond.code yX0_listPair cX0_listPair 5 none ∈ lm_T := lm_in 128 (by decide +kernel) (by decide +kernel)
theorem tb_2 : Cond.initialized "ListMemory$Collector" ∈ lm_T := lm_in 2 (by decide +kernel) (by decide +kernel)
theorem tb_125 : Cond.methodLink RX0 34 yX0_listPair ∈ lm_T := lm_in 125 (by decide +kernel) (by decide +kernel)
theorem tb_127 : Cond.instanceMethod yX0_listPair ∈ lm_T := lm_in 127 (by decide +kernel) (by decide +kernel)
theorem ts_1 : Cond.selects RX0 yX0_listPair yX0_listPair ∈ lm_T := lm_inS 1 (by decide +kernel) (by decide +kernel)
theorem tc_X1_restOf : Cond.code yX1_restOf cX1_restOf 2 (some .long) ∈ lm_T := lm_in 149 (by decide +kernel) (by decide +kernel)
theorem tb_4 : Cond.initialized "ListMemory$Half" ∈ lm_T := lm_in 4 (by decide +kernel) (by decide +kernel)
theorem tb_146 : Cond.methodLink RX0 38 yX1_restOf ∈ lm_T := lm_in 146 (by decide +kernel) (by decide +kernel)
theorem tb_147 : Cond.instanceMethod yX1_restOf ∈ lm_T := lm_in 147 (by decide +kernel) (by decide +kernel)
theorem tb_148 : Cond.selects RX1 yX1_restOf yX1_restOf ∈ lm_T := lm_in 148 (by decide +kernel) (by decide +kernel)
theorem tc_X1_contentAt : Cond.code yX1_contentAt cX1_contentAt 2 (some .long) ∈ lm_T := lm_in 144 (by decide +kernel) (by decide +kernel)
theorem tb_157 : Cond.methodLink RX0 44 yX1_contentAt ∈ lm_T := lm_in 157 (by decide +kernel) (by decide +kernel)
theorem tb_142 : Cond.instanceMethod yX1_contentAt ∈ lm_T := lm_in 142 (by decide +kernel) (by decide +kernel)
theorem tb_143 : Cond.selects RX1 yX1_contentAt yX1_contentAt ∈ lm_T := lm_in 143 (by decide +kernel) (by decide +kernel)
theorem tc_X1_cellOf : Cond.code yX1_cellOf cX1_cellOf 6 (some .int) ∈ lm_T := lm_in 136 (by decide +kernel) (by decide +kernel)
theorem tb_133 : Cond.methodLink RX0 51 yX1_cellOf ∈ lm_T := lm_in 133 (by decide +kernel) (by decide +kernel)
theorem tb_134 : Cond.instanceMethod yX1_cellOf ∈ lm_T := lm_in 134 (by decide +kernel) (by decide +kernel)
theorem tb_135 : Cond.selects RX1 yX1_cellOf yX1_cellOf ∈ lm_T := lm_in 135 (by decide +kernel) (by decide +kernel)
theorem tc_X0_layCell : Cond.code yX0_layCell cX0_layCell 9 (some .int) ∈ lm_T := lm_in 165 (by decide +kernel) (by decide +kernel)
theorem tb_162 : Cond.methodLink RX0 54 yX0_layCell ∈ lm_T := lm_in 162 (by decide +kernel) (by decide +kernel)
theorem tb_164 : Cond.instanceMethod yX0_layCell ∈ lm_T := lm_in 164 (by decide +kernel) (by decide +kernel)
theorem ts_2 : Cond.selects RX0 yX0_layCell yX0_layCell ∈ lm_T := lm_inS 2 (by decide +kernel) (by decide +kernel)
theorem tc_X1_take : Cond.code yX1_take cX1_take 5 (some .int) ∈ lm_T := lm_in 169 (by decide +kernel) (by decide +kernel)
theorem tb_166 : Cond.methodLink RX0 61 yX1_take ∈ lm_T := lm_in 166 (by decide +kernel) (by decide +kernel)
theorem tb_167 : Cond.instanceMethod yX1_take ∈ lm_T := lm_in 167 (by decide +kernel) (by decide +kernel)
theorem tb_168 : Cond.selects RX1 yX1_take yX1_take ∈ lm_T := lm_in 168 (by decide +kernel) (by decide +kernel)
theorem tc_X1_takeTwo : Cond.code yX1_takeTwo cX1_takeTwo 6 (some .int) ∈ lm_T := lm_in 173 (by decide +kernel) (by decide +kernel)
theorem tb_170 : Cond.methodLink RX0 65 yX1_takeTwo ∈ lm_T := lm_in 170 (by decide +kernel) (by decide +kernel)
theorem tb_171 : Cond.instanceMethod yX1_takeTwo ∈ lm_T := lm_in 171 (by decide +kernel) (by decide +kernel)
theorem tb_172 : Cond.selects RX1 yX1_takeTwo yX1_takeTwo ∈ lm_T := lm_in 172 (by decide +kernel) (by decide +kernel)
theorem tc_X0_inNewHalf : Cond.code yX0_inNewHalf cX0_inNewHalf 4 (some .long) ∈ lm_T := lm_in 182 (by decide +kernel) (by decide +kernel)
theorem tb_179 : Cond.methodLink RX0 69 yX0_inNewHalf ∈ lm_T := lm_in 179 (by decide +kernel) (by decide +kernel)
theorem tb_181 : Cond.instanceMethod yX0_inNewHalf ∈ lm_T := lm_in 181 (by decide +kernel) (by decide +kernel)
theorem ts_3 : Cond.selects RX0 yX0_inNewHalf yX0_inNewHalf ∈ lm_T := lm_inS 3 (by decide +kernel) (by decide +kernel)
theorem tc_X1_setContent : Cond.code yX1_setContent cX1_setContent 4 none ∈ lm_T := lm_in 187 (by decide +kernel) (by decide +kernel)
theorem tb_184 : Cond.methodLink RX0 73 yX1_setContent ∈ lm_T := lm_in 184 (by decide +kernel) (by decide +kernel)
theorem tb_185 : Cond.instanceMethod yX1_setContent ∈ lm_T := lm_in 185 (by decide +kernel) (by decide +kernel)
theorem tb_186 : Cond.selects RX1 yX1_setContent yX1_setContent ∈ lm_T := lm_in 186 (by decide +kernel) (by decide +kernel)
theorem tb_174 : Cond.methodLink RX1 23 yX1_take ∈ lm_T := lm_in 174 (by decide +kernel) (by decide +kernel)
theorem tb_141 : Cond.methodLink RX1 31 yX1_contentAt ∈ lm_T := lm_in 141 (by decide +kernel) (by decide +kernel)
theorem tc_X1_codeAt : Cond.code yX1_codeAt cX1_codeAt 2 (some .int) ∈ lm_T := lm_in 153 (by decide +kernel) (by decide +kernel)
theorem tb_150 : Cond.methodLink RX1 38 yX1_codeAt ∈ lm_T := lm_in 150 (by decide +kernel) (by decide +kernel)
theorem tb_151 : Cond.instanceMethod yX1_codeAt ∈ lm_T := lm_in 151 (by decide +kernel) (by decide +kernel)
theorem tb_152 : Cond.selects RX1 yX1_codeAt yX1_codeAt ∈ lm_T := lm_in 152 (by decide +kernel) (by decide +kernel)
theorem tc_X2_fit : Cond.code yX2_fit cX2_fit 8 (some .boolean) ∈ lm_T := lm_in 491 (by decide +kernel) (by decide +kernel)
theorem tb_3 : Cond.initialized "ListMemory$Matching" ∈ lm_T := lm_in 3 (by decide +kernel) (by decide +kernel)
theorem tb_488 : Cond.methodLink RX2 31 yX2_fit ∈ lm_T := lm_in 488 (by decide +kernel) (by decide +kernel)
theorem tb_490 : Cond.instanceMethod yX2_fit ∈ lm_T := lm_in 490 (by decide +kernel) (by decide +kernel)
theorem ts_11 : Cond.selects RX2 yX2_fit yX2_fit ∈ lm_T := lm_inS 11 (by decide +kernel) (by decide +kernel)
theorem tb_494 : Cond.methodLink RX2 35 yX1_contentAt ∈ lm_T := lm_in 494 (by decide +kernel) (by decide +kernel)
theorem tb_495 : Cond.methodLink RX2 41 yX1_restOf ∈ lm_T := lm_in 495 (by decide +kernel) (by decide +kernel)
theorem tb_493 : Cond.methodLink RX2 48 yX1_cellOf ∈ lm_T := lm_in 493 (by decide +kernel) (by decide +kernel)
theorem tb_414 : Cond.methodLink RX3 106 yX1_codeAt ∈ lm_T := lm_in 414 (by decide +kernel) (by decide +kernel)
theorem tc_X1_countMoved : Cond.code yX1_countMoved cX1_countMoved 3 (some .int) ∈ lm_T := lm_in 195 (by decide +kernel) (by decide +kernel)
theorem tb_192 : Cond.methodLink RX3 141 yX1_countMoved ∈ lm_T := lm_in 192 (by decide +kernel) (by decide +kernel)
theorem tb_193 : Cond.instanceMethod yX1_countMoved ∈ lm_T := lm_in 193 (by decide +kernel) (by decide +kernel)
theorem tb_194 : Cond.selects RX1 yX1_countMoved yX1_countMoved ∈ lm_T := lm_in 194 (by decide +kernel) (by decide +kernel)
theorem tc_X1_clear : Cond.code yX1_clear cX1_clear 1 none ∈ lm_T := lm_in 117 (by decide +kernel) (by decide +kernel)
theorem tb_114 : Cond.methodLink RX3 175 yX1_clear ∈ lm_T := lm_in 114 (by decide +kernel) (by decide +kernel)
theorem tb_115 : Cond.instanceMethod yX1_clear ∈ lm_T := lm_in 115 (by decide +kernel) (by decide +kernel)
theorem tb_116 : Cond.selects RX1 yX1_clear yX1_clear ∈ lm_T := lm_in 116 (by decide +kernel) (by decide +kernel)
theorem tc_X0_listReached : Cond.code yX0_listReached cX0_listReached 7 none ∈ lm_T := lm_in 121 (by decide +kernel) (by decide +kernel)
theorem tb_118 : Cond.methodLink RX3 178 yX0_listReached ∈ lm_T := lm_in 118 (by decide +kernel) (by decide +kernel)
theorem tb_119 : Cond.instanceMethod yX0_listReached ∈ lm_T := lm_in 119 (by decide +kernel) (by decide +kernel)
theorem tb_120 : Cond.selects RX0 yX0_listReached yX0_listReached ∈ lm_T := lm_in 120 (by decide +kernel) (by decide +kernel)
theorem tc_X0_layListed : Cond.code yX0_layListed cX0_layListed 7 none ∈ lm_T := lm_in 161 (by decide +kernel) (by decide +kernel)
theorem tb_158 : Cond.methodLink RX3 182 yX0_layListed ∈ lm_T := lm_in 158 (by decide +kernel) (by decide +kernel)
theorem tb_159 : Cond.instanceMethod yX0_layListed ∈ lm_T := lm_in 159 (by decide +kernel) (by decide +kernel)
theorem tb_160 : Cond.selects RX0 yX0_layListed yX0_layListed ∈ lm_T := lm_in 160 (by decide +kernel) (by decide +kernel)
theorem tc_X0_tellNewPlaces : Cond.code yX0_tellNewPlaces cX0_tellNewPlaces 5 none ∈ lm_T := lm_in 178 (by decide +kernel) (by decide +kernel)
theorem tb_175 : Cond.methodLink RX3 186 yX0_tellNewPlaces ∈ lm_T := lm_in 175 (by decide +kernel) (by decide +kernel)
theorem tb_176 : Cond.instanceMethod yX0_tellNewPlaces ∈ lm_T := lm_in 176 (by decide +kernel) (by decide +kernel)
theorem tb_177 : Cond.selects RX0 yX0_tellNewPlaces yX0_tellNewPlaces ∈ lm_T := lm_in 177 (by decide +kernel) (by decide +kernel)
theorem tb_346 : Cond.methodLink RX3 71 yX1_takeTwo ∈ lm_T := lm_in 346 (by decide +kernel) (by decide +kernel)
theorem tb_355 : Cond.methodLink RX3 80 yX1_take ∈ lm_T := lm_in 355 (by decide +kernel) (by decide +kernel)
theorem tb_385 : Cond.methodLink RX3 87 yX1_cellOf ∈ lm_T := lm_in 385 (by decide +kernel) (by decide +kernel)
theorem tb_386 : Cond.methodLink RX3 91 yX1_contentAt ∈ lm_T := lm_in 386 (by decide +kernel) (by decide +kernel)
theorem tb_394 : Cond.methodLink RX3 95 yX1_restOf ∈ lm_T := lm_in 394 (by decide +kernel) (by decide +kernel)
theorem tc_X4_cell : Cond.code yX4_cell cX4_cell 4 (some .int) ∈ lm_T := lm_in 644 (by decide +kernel) (by decide +kernel)
theorem tb_5 : Cond.initialized "ListMemoryModel" ∈ lm_T := lm_in 5 (by decide +kernel) (by decide +kernel)
theorem tb_641 : Cond.methodLink RX4 65 yX4_cell ∈ lm_T := lm_in 641 (by decide +kernel) (by decide +kernel)
theorem tb_643 : Cond.instanceMethod yX4_cell ∈ lm_T := lm_in 643 (by decide +kernel) (by decide +kernel)
theorem ts_17 : Cond.selects RX4 yX4_cell yX4_cell ∈ lm_T := lm_inS 17 (by decide +kernel) (by decide +kernel)
theorem tc_X4_look : Cond.code yX4_look cX4_look 4 none ∈ lm_T := lm_in 652 (by decide +kernel) (by decide +kernel)
theorem tb_649 : Cond.methodLink RX4 69 yX4_look ∈ lm_T := lm_in 649 (by decide +kernel) (by decide +kernel)
theorem tb_651 : Cond.instanceMethod yX4_look ∈ lm_T := lm_in 651 (by decide +kernel) (by decide +kernel)
theorem ts_19 : Cond.selects RX4 yX4_look yX4_look ∈ lm_T := lm_inS 19 (by decide +kernel) (by decide +kernel)
theorem tc_X4_lookRest : Cond.code yX4_lookRest cX4_lookRest 2 none ∈ lm_T := lm_in 648 (by decide +kernel) (by decide +kernel)
theorem tb_645 : Cond.methodLink RX4 85 yX4_lookRest ∈ lm_T := lm_in 645 (by decide +kernel) (by decide +kernel)
theorem tb_647 : Cond.instanceMethod yX4_lookRest ∈ lm_T := lm_in 647 (by decide +kernel) (by decide +kernel)
theorem ts_18 : Cond.selects RX4 yX4_lookRest yX4_lookRest ∈ lm_T := lm_inS 18 (by decide +kernel) (by decide +kernel)
theorem tc_X4_lay : Cond.code yX4_lay cX4_lay 5 none ∈ lm_T := lm_in 660 (by decide +kernel) (by decide +kernel)
theorem tb_657 : Cond.methodLink RX4 89 yX4_lay ∈ lm_T := lm_in 657 (by decide +kernel) (by decide +kernel)
theorem tb_659 : Cond.instanceMethod yX4_lay ∈ lm_T := lm_in 659 (by decide +kernel) (by decide +kernel)
theorem ts_21 : Cond.selects RX4 yX4_lay yX4_lay ∈ lm_T := lm_inS 21 (by decide +kernel) (by decide +kernel)
theorem tc_X4_enlist : Cond.code yX4_enlist cX4_enlist 6 none ∈ lm_T := lm_in 640 (by decide +kernel) (by decide +kernel)
theorem tb_637 : Cond.methodLink RX4 96 yX4_enlist ∈ lm_T := lm_in 637 (by decide +kernel) (by decide +kernel)
theorem tb_639 : Cond.instanceMethod yX4_enlist ∈ lm_T := lm_in 639 (by decide +kernel) (by decide +kernel)
theorem ts_16 : Cond.selects RX4 yX4_enlist yX4_enlist ∈ lm_T := lm_inS 16 (by decide +kernel) (by decide +kernel)
theorem tc_X4_spine : Cond.code yX4_spine cX4_spine 8 none ∈ lm_T := lm_in 656 (by decide +kernel) (by decide +kernel)
theorem tb_653 : Cond.methodLink RX4 99 yX4_spine ∈ lm_T := lm_in 653 (by decide +kernel) (by decide +kernel)
theorem tb_655 : Cond.instanceMethod yX4_spine ∈ lm_T := lm_in 655 (by decide +kernel) (by decide +kernel)
theorem ts_20 : Cond.selects RX4 yX4_spine yX4_spine ∈ lm_T := lm_inS 20 (by decide +kernel) (by decide +kernel)
theorem tb_21 : Cond.instanceMethod objectInit ∈ lm_T := lm_in 21 (by decide +kernel) (by decide +kernel)
theorem tc_obj : Cond.code objectInit ⟨#[0xb1]⟩ 1 none ∈ lm_T := lm_in 22 (by decide +kernel) (by decide +kernel)
theorem tb_46 : Cond.arrayClass .int ∈ lm_T := lm_in 46 (by decide +kernel) (by decide +kernel)
theorem tb_45 : Cond.arrayClass .long ∈ lm_T := lm_in 45 (by decide +kernel) (by decide +kernel)
theorem tb_595 : Cond.arrayClass .boolean ∈ lm_T := lm_in 595 (by decide +kernel) (by decide +kernel)
end
section
/-! One judgement for a walk: heap, frame and locals' array are hidden; the goal says pc, locals, stack and world alone -/
abbrev lm_G : Type := va_G × ClassId × ClassId × ClassId
abbrev lm_ty (K : lm_G) : List (ClassId × FieldType) := [(K.2.1, .int), (K.2.2.1, .long), (K.2.2.2, .boolean)]
abbrev aI (K : lm_G) (n : Nat) (f : Nat → Int32) : va_E := .inl (K.2.1, n, .inl f)
abbrev aJ (K : lm_G) (n : Nat) (f : Nat → Int64) : va_E := .inl (K.2.2.1, n, .inr (.inl f))
abbrev aZ (K : lm_G) (n : Nat) (f : Nat → Int32) : va_E := .inl (K.2.2.2, n, .inl f)
abbrev lm_Me : Type := MethodName × ByteArray × Nat × Option FieldType
def lm_W (M : lm_Me) : List Cond := .code M.1 M.2.1 M.2.2.1 M.2.2.2 :: lm_T
def lm_In (K : lm_G) (ws : va_W) (sz : Nat) (U : State) : Prop := U.heap.size = sz ∧ va_P K.1 lmCl ws U.heap ∧ va_K K.1 lmCl (lm_ty K) U ∧ va_D (fun _ => True) ws ∧ lm_N U
def lm_Q (K : lm_G) (A : Nat → Prop) (post : Option Value → va_W → Prop) : Array Value → State → Outcome → State → Prop := fun _ st oc t => (∃ (v : Option Value) (w : va_W), oc = .returned v ∧ post v w ∧ va_P K.1 lmCl w t.heap ∧ va_D A w) ∧ va_F A st t
/-- a contract: the arguments, the world ahead, what comes back and the world behind -/
def lm_C (l : Launch) (K : lm_G) (M : lm_Me) (rm : Room) (as : List Value) (ws : va_W) (post : Option Value → va_W → Prop) : Prop := ∀ sz : Nat, Met l M.1 (lm_W M) rm (va_Pc as (lm_In K ws sz)) (lm_Q K (va_A ws sz) post) rm.cells rm.slots (va_A ws sz)
abbrev lx_E : Type := Program × Launch × Env × Room × State × MethodId × Array Value × List Frame × Method × Code × (State → Prop) × (Nat → Prop)
abbrev xp (E : lx_E) : Program := E.1
abbrev xl (E : lx_E) : Launch := E.2.1
abbrev xe (E : lx_E) : Env := E.2.2.1
abbrev xR (E : lx_E) : Room := E.2.2.2.1
abbrev xs (E : lx_E) : State := E.2.2.2.2.1
abbrev xm (E : lx_E) : MethodId := E.2.2.2.2.2.1
abbrev xa (E : lx_E) : Array Value := E.2.2.2.2.2.2.1
abbrev xb (E : lx_E) : List Frame := E.2.2.2.2.2.2.2.1
abbrev xt (E : lx_E) : Method := E.2.2.2.2.2.2.2.2.1
abbrev xc (E : lx_E) : Code := E.2.2.2.2.2.2.2.2.2.1
abbrev xq (E : lx_E) : State → Prop := E.2.2.2.2.2.2.2.2.2.2.1
abbrev xA (E : lx_E) : Nat → Prop := E.2.2.2.2.2.2.2.2.2.2.2
def lx_W (K : lm_G) (nL : Nat) (E : lx_E) (a b pc : Nat) (lv : List (Nat × Value)) (st : List Value) (ws : va_W) : Prop :=
  ∀ (H : Heap) (locs : List Loc) (ls : Array Slot), lv_has ls nL lv → va_P K.1 lmCl ws H → va_D (xA E) ws → va_S (xA E) (xs E).heap H locs → W (xp E) (xl E) (xe E) (xR E) (xs E) (xm E) (xa E) (xb E) (xt E) (xc E) H locs a b (xq E) (F0 (xm E) pc ls st)
def lx_F (K : lm_G) (nL : Nat) (E : lx_E) (cc : ByteArray) (own : String) (ret : Option FieldType) (rm : Room) : Prop :=
  CallFix (xp E) (xm E) (xc E) cc nL (xs E) (xa E) lm_T own ∧ va_K K.1 lmCl (lm_ty K) (xs E) ∧ lm_N (xs E) ∧ (∀ q, (xs E).heap.size ≤ q → xA E q) ∧ (xt E).sig.returnType = ret ∧ (xt E).locks = false ∧ xR E = rm
/-- what a return owes -/
def lx_RQ (K : lm_G) (E : lx_E) (a b : Nat) (post : Option Value → va_W → Prop) : Prop := ∀ (H : Heap) (locs : List Loc) (g : JFrame), W (xp E) (xl E) (xe E) (xR E) (xs E) (xm E) (xa E) (xb E) (xt E) (xc E) H locs a b (MQ (xb E) (lm_Q K (xA E) post) (xa E) (xs E) a b (xA E)) g → W (xp E) (xl E) (xe E) (xR E) (xs E) (xm E) (xa E) (xb E) (xt E) (xc E) H locs a b (xq E) g
section LXR
variable {K : lm_G} {nL : Nat} {E : lx_E} {cc : ByteArray} {own : String} {ret : Option FieldType} {rm : Room} {a b pc : Nat} {lv : List (Nat × Value)} {st : List Value} {ws : va_W}
theorem lx_iconst (F : lx_F K nL E cc own ret rm) {n : Int} {v : Int32} (hd : decode cc pc = .ok (.iconst n, 1)) (hv : Int32.ofInt n = v) (k : lx_W K nL E a b (pc + 1) lv (.int v :: st) ws) : lx_W K nL E a b pc lv (st) ws := fun H L ls h hP hD hS => lv_iconst F.1.1 F.1.2.1 hd hv (k H L ls h hP hD hS)
theorem lx_bipush (F : lx_F K nL E cc own ret rm) {n : Int} {v : Int32} (hd : decode cc pc = .ok (.bipush n, 2)) (hv : (Int8.ofInt n).toInt32 = v) (k : lx_W K nL E a b (pc + 2) lv (.int v :: st) ws) : lx_W K nL E a b pc lv (st) ws := fun H L ls h hP hD hS => lv_bipush F.1.1 F.1.2.1 hd hv (k H L ls h hP hD hS)
theorem lx_lconst (F : lx_F K nL E cc own ret rm) {n : Fin 2} {v : Int64} (hd : decode cc pc = .ok (.lconst n, 1)) (hv : Int64.ofNat (n : Nat) = v) (k : lx_W K nL E a b (pc + 1) lv (.long v :: st) ws) : lx_W K nL E a b pc lv (st) ws := fun H L ls h hP hD hS => lv_lconst F.1.1 F.1.2.1 hd hv (k H L ls h hP hD hS)
theorem lx_iload (F : lx_F K nL E cc own ret rm) {i : Nat} {x : Int32} (hd : decode cc pc = .ok (.iload i, 2)) (q : Nat) (hq : lv[q]? = some (i, .int x)) (k : lx_W K nL E a b (pc + 2) lv (.int x :: st) ws) : lx_W K nL E a b pc lv (st) ws := fun H L ls h hP hD hS => lv_iload F.1.1 F.1.2.1 hd (lv_at h q hq) (k H L ls h hP hD hS)
theorem lx_iload_n (F : lx_F K nL E cc own ret rm) {i : Fin 4} {x : Int32} (hd : decode cc pc = .ok (.iload_n i, 1)) (q : Nat) (hq : lv[q]? = some ((i : Nat), .int x)) (k : lx_W K nL E a b (pc + 1) lv (.int x :: st) ws) : lx_W K nL E a b pc lv (st) ws := fun H L ls h hP hD hS => lv_iload_n F.1.1 F.1.2.1 hd rfl (lv_at h q hq) (k H L ls h hP hD hS)
theorem lx_istore (F : lx_F K nL E cc own ret rm) {i : Nat} {x : Int32} (lv' : List (Nat × Value)) (ks : List Nat) (hd : decode cc pc = .ok (.istore i, 2)) (hl : lv_pick ((i, .int x) :: lv.filter (fun q => !(q.1 == i) && !(q.1 + 1 == i && q.2.category == 2))) ks = lv') (hn : i < nL) (k : lx_W K nL E a b (pc + 2) lv' st ws) : lx_W K nL E a b pc lv (.int x :: st) ws := fun H L ls h hP hD hS => lv_istore F.1.1 F.1.2.1 hd h hn rfl (fun ls' h' => k H L ls' (lv_sub h' ks hl) hP hD hS)
theorem lx_istore_n (F : lx_F K nL E cc own ret rm) {i : Fin 4} {x : Int32} (lv' : List (Nat × Value)) (ks : List Nat) (hd : decode cc pc = .ok (.istore_n i, 1)) (hl : lv_pick (((i : Nat), .int x) :: lv.filter (fun q => !(q.1 == (i : Nat)) && !(q.1 + 1 == (i : Nat) && q.2.category == 2))) ks = lv') (hn : (i : Nat) < nL) (k : lx_W K nL E a b (pc + 1) lv' st ws) : lx_W K nL E a b pc lv (.int x :: st) ws := fun H L ls h hP hD hS => lv_istore_n F.1.1 F.1.2.1 hd rfl h hn rfl (fun ls' h' => k H L ls' (lv_sub h' ks hl) hP hD hS)
theorem lx_lload (F : lx_F K nL E cc own ret rm) {i : Nat} {x : Int64} (hd : decode cc pc = .ok (.lload i, 2)) (q : Nat) (hq : lv[q]? = some (i, .long x)) (k : lx_W K nL E a b (pc + 2) lv (.long x :: st) ws) : lx_W K nL E a b pc lv (st) ws := fun H L ls h hP hD hS => lv_lload F.1.1 F.1.2.1 hd (lv_at h q hq) (k H L ls h hP hD hS)
theorem lx_lload_n (F : lx_F K nL E cc own ret rm) {i : Fin 4} {x : Int64} (hd : decode cc pc = .ok (.lload_n i, 1)) (q : Nat) (hq : lv[q]? = some ((i : Nat), .long x)) (k : lx_W K nL E a b (pc + 1) lv (.long x :: st) ws) : lx_W K nL E a b pc lv (st) ws := fun H L ls h hP hD hS => lv_lload_n F.1.1 F.1.2.1 hd rfl (lv_at h q hq) (k H L ls h hP hD hS)
theorem lx_lstore (F : lx_F K nL E cc own ret rm) {i : Nat} {x : Int64} (lv' : List (Nat × Value)) (ks : List Nat) (hd : decode cc pc = .ok (.lstore i, 2)) (hl : lv_pick ((i, .long x) :: lv.filter (fun q => !(q.1 == i) && (!(q.1 == i + 1) && !(q.1 + 1 == i && q.2.category == 2)))) ks = lv') (hn : i + 1 < nL) (k : lx_W K nL E a b (pc + 2) lv' st ws) : lx_W K nL E a b pc lv (.long x :: st) ws := fun H L ls h hP hD hS => lv_lstore F.1.1 F.1.2.1 hd h hn rfl (fun ls' h' => k H L ls' (lv_sub h' ks hl) hP hD hS)
theorem lx_lstore_n (F : lx_F K nL E cc own ret rm) {i : Fin 4} {x : Int64} (lv' : List (Nat × Value)) (ks : List Nat) (hd : decode cc pc = .ok (.lstore_n i, 1)) (hl : lv_pick (((i : Nat), .long x) :: lv.filter (fun q => !(q.1 == (i : Nat)) && (!(q.1 == (i : Nat) + 1) && !(q.1 + 1 == (i : Nat) && q.2.category == 2)))) ks = lv') (hn : (i : Nat) + 1 < nL) (k : lx_W K nL E a b (pc + 1) lv' st ws) : lx_W K nL E a b pc lv (.long x :: st) ws := fun H L ls h hP hD hS => lv_lstore_n F.1.1 F.1.2.1 hd rfl h hn rfl (fun ls' h' => k H L ls' (lv_sub h' ks hl) hP hD hS)
theorem lx_aload (F : lx_F K nL E cc own ret rm) {i : Nat} {x : Nat} (hd : decode cc pc = .ok (.aload i, 2)) (q : Nat) (hq : lv[q]? = some (i, .ref x)) (k : lx_W K nL E a b (pc + 2) lv (.ref x :: st) ws) : lx_W K nL E a b pc lv (st) ws := fun H L ls h hP hD hS => lv_aload F.1.1 F.1.2.1 hd (lv_at h q hq) (k H L ls h hP hD hS)
theorem lx_aload_n (F : lx_F K nL E cc own ret rm) {i : Fin 4} {x : Nat} (hd : decode cc pc = .ok (.aload_n i, 1)) (q : Nat) (hq : lv[q]? = some ((i : Nat), .ref x)) (k : lx_W K nL E a b (pc + 1) lv (.ref x :: st) ws) : lx_W K nL E a b pc lv (st) ws := fun H L ls h hP hD hS => lv_aload_n F.1.1 F.1.2.1 hd rfl (lv_at h q hq) (k H L ls h hP hD hS)
theorem lx_astore (F : lx_F K nL E cc own ret rm) {i : Nat} {x : Nat} (lv' : List (Nat × Value)) (ks : List Nat) (hd : decode cc pc = .ok (.astore i, 2)) (hl : lv_pick ((i, .ref x) :: lv.filter (fun q => !(q.1 == i) && !(q.1 + 1 == i && q.2.category == 2))) ks = lv') (hn : i < nL) (k : lx_W K nL E a b (pc + 2) lv' st ws) : lx_W K nL E a b pc lv (.ref x :: st) ws := fun H L ls h hP hD hS => lv_astore F.1.1 F.1.2.1 hd h hn rfl (fun ls' h' => k H L ls' (lv_sub h' ks hl) hP hD hS)
theorem lx_astore_n (F : lx_F K nL E cc own ret rm) {i : Fin 4} {x : Nat} (lv' : List (Nat × Value)) (ks : List Nat) (hd : decode cc pc = .ok (.astore_n i, 1)) (hl : lv_pick (((i : Nat), .ref x) :: lv.filter (fun q => !(q.1 == (i : Nat)) && !(q.1 + 1 == (i : Nat) && q.2.category == 2))) ks = lv') (hn : (i : Nat) < nL) (k : lx_W K nL E a b (pc + 1) lv' st ws) : lx_W K nL E a b pc lv (.ref x :: st) ws := fun H L ls h hP hD hS => lv_astore_n F.1.1 F.1.2.1 hd rfl h hn rfl (fun ls' h' => k H L ls' (lv_sub h' ks hl) hP hD hS)
theorem lx_iinc (F : lx_F K nL E cc own ret rm) {i : Nat} {n : Int} {x v : Int32} (lv' : List (Nat × Value)) (q : Nat) (ks : List Nat) (hd : decode cc pc = .ok (.iinc i n, 3)) (hq : lv[q]? = some (i, .int x)) (hv : x + Int32.ofInt n = v) (hl : lv_pick ((i, Value.int v) :: lv.filter (fun q => !(q.1 == i) && !(q.1 + 1 == i && q.2.category == 2))) ks = lv') (hn : i < nL) (k : lx_W K nL E a b (pc + 3) lv' st ws) : lx_W K nL E a b pc lv st ws := fun H L ls h hP hD hS => lv_iinc F.1.1 F.1.2.1 hd h hq hv hn rfl (fun ls' h' => k H L ls' (lv_sub h' ks hl) hP hD hS)
theorem lx_iadd (F : lx_F K nL E cc own ret rm) {x y z : Int32} (hd : decode cc pc = .ok (.iadd, 1)) (hz : x + y = z) (k : lx_W K nL E a b (pc + 1) lv (.int z :: st) ws) : lx_W K nL E a b pc lv (.int y :: .int x :: st) ws := fun H L ls h hP hD hS => lv_iadd F.1.1 F.1.2.1 hd (by rw [hz]; exact k H L ls h hP hD hS)
theorem lx_isub (F : lx_F K nL E cc own ret rm) {x y z : Int32} (hd : decode cc pc = .ok (.isub, 1)) (hz : x - y = z) (k : lx_W K nL E a b (pc + 1) lv (.int z :: st) ws) : lx_W K nL E a b pc lv (.int y :: .int x :: st) ws := fun H L ls h hP hD hS => lv_isub F.1.1 F.1.2.1 hd (by rw [hz]; exact k H L ls h hP hD hS)
theorem lx_iand (F : lx_F K nL E cc own ret rm) {x y z : Int32} (hd : decode cc pc = .ok (.iand, 1)) (hz : x &&& y = z) (k : lx_W K nL E a b (pc + 1) lv (.int z :: st) ws) : lx_W K nL E a b pc lv (.int y :: .int x :: st) ws := fun H L ls h hP hD hS => lv_iand F.1.1 F.1.2.1 hd (by rw [hz]; exact k H L ls h hP hD hS)
theorem lx_ladd (F : lx_F K nL E cc own ret rm) {x y z : Int64} (hd : decode cc pc = .ok (.ladd, 1)) (hz : x + y = z) (k : lx_W K nL E a b (pc + 1) lv (.long z :: st) ws) : lx_W K nL E a b pc lv (.long y :: .long x :: st) ws := fun H L ls h hP hD hS => lv_ladd F.1.1 F.1.2.1 hd (by rw [hz]; exact k H L ls h hP hD hS)
theorem lx_land (F : lx_F K nL E cc own ret rm) {x y z : Int64} (hd : decode cc pc = .ok (.land, 1)) (hz : x &&& y = z) (k : lx_W K nL E a b (pc + 1) lv (.long z :: st) ws) : lx_W K nL E a b pc lv (.long y :: .long x :: st) ws := fun H L ls h hP hD hS => lv_land F.1.1 F.1.2.1 hd (by rw [hz]; exact k H L ls h hP hD hS)
theorem lx_lor (F : lx_F K nL E cc own ret rm) {x y z : Int64} (hd : decode cc pc = .ok (.lor, 1)) (hz : x ||| y = z) (k : lx_W K nL E a b (pc + 1) lv (.long z :: st) ws) : lx_W K nL E a b pc lv (.long y :: .long x :: st) ws := fun H L ls h hP hD hS => lv_lor F.1.1 F.1.2.1 hd (by rw [hz]; exact k H L ls h hP hD hS)
theorem lx_lshl (F : lx_F K nL E cc own ret rm) {x v : Int64} {y : Int32} (hd : decode cc pc = .ok (.lshl, 1)) (hv : x <<< (y.toInt64 &&& 63) = v) (k : lx_W K nL E a b (pc + 1) lv (.long v :: st) ws) : lx_W K nL E a b pc lv (.int y :: .long x :: st) ws := fun H L ls h hP hD hS => lv_lshl F.1.1 F.1.2.1 hd hv (k H L ls h hP hD hS)
theorem lx_lshr (F : lx_F K nL E cc own ret rm) {x v : Int64} {y : Int32} (hd : decode cc pc = .ok (.lshr, 1)) (hv : x >>> (y.toInt64 &&& 63) = v) (k : lx_W K nL E a b (pc + 1) lv (.long v :: st) ws) : lx_W K nL E a b pc lv (.int y :: .long x :: st) ws := fun H L ls h hP hD hS => lv_lshr F.1.1 F.1.2.1 hd hv (k H L ls h hP hD hS)
theorem lx_i2l (F : lx_F K nL E cc own ret rm) {x : Int32} {v : Int64} (hd : decode cc pc = .ok (.i2l, 1)) (hv : x.toInt64 = v) (k : lx_W K nL E a b (pc + 1) lv (.long v :: st) ws) : lx_W K nL E a b pc lv (.int x :: st) ws := fun H L ls h hP hD hS => lv_i2l F.1.1 F.1.2.1 hd hv (k H L ls h hP hD hS)
theorem lx_l2i (F : lx_F K nL E cc own ret rm) {x : Int64} {v : Int32} (hd : decode cc pc = .ok (.l2i, 1)) (hv : x.toInt32 = v) (k : lx_W K nL E a b (pc + 1) lv (.int v :: st) ws) : lx_W K nL E a b pc lv (.long x :: st) ws := fun H L ls h hP hD hS => lv_l2i F.1.1 F.1.2.1 hd hv (k H L ls h hP hD hS)
theorem lx_dup (F : lx_F K nL E cc own ret rm) {v : Value} (hd : decode cc pc = .ok (.dup, 1)) (hv : v.category = 1) (k : lx_W K nL E a b (pc + 1) lv (v :: v :: st) ws) : lx_W K nL E a b pc lv (v :: st) ws := fun H L ls h hP hD hS => lv_dup F.1.1 F.1.2.1 hd hv (k H L ls h hP hD hS)
theorem lx_pop (F : lx_F K nL E cc own ret rm) {v : Value} (hd : decode cc pc = .ok (.pop, 1)) (hv : v.category = 1) (k : lx_W K nL E a b (pc + 1) lv st ws) : lx_W K nL E a b pc lv (v :: st) ws := fun H L ls h hP hD hS => lv_pop F.1.1 F.1.2.1 hd hv (k H L ls h hP hD hS)
theorem lx_goto (F : lx_F K nL E cc own ret rm) {off : Int} (tgt : Nat) (hd : decode cc pc = .ok (.goto off, 3)) (ht : (pc : Int) + off = (tgt : Int)) (k : lx_W K nL E a b tgt lv st ws) : lx_W K nL E a b pc lv st ws := fun H L ls h hP hD hS => lv_goto F.1.1 F.1.2.1 hd ht (k H L ls h hP hD hS)
theorem lx_icmp_eq (F : lx_F K nL E cc own ret rm) {x y : Int32} {off : Int} (tgt : Nat) (hd : decode cc pc = .ok (.if_icmp .eq off, 3)) (ht : (pc : Int) + off = (tgt : Int)) (kt : x = y → lx_W K nL E a b tgt lv st ws) (kf : ¬ x = y → lx_W K nL E a b (pc + 3) lv st ws) : lx_W K nL E a b pc lv (.int y :: .int x :: st) ws := fun H L ls h hP hD hS => lv_icmp_eq F.1.1 F.1.2.1 hd ht (fun q => kt q H L ls h hP hD hS) (fun q => kf q H L ls h hP hD hS)
theorem lx_if_eq (F : lx_F K nL E cc own ret rm) {x : Int32} {off : Int} (tgt : Nat) (hd : decode cc pc = .ok (.ifCond .eq off, 3)) (ht : (pc : Int) + off = (tgt : Int)) (kt : x = 0 → lx_W K nL E a b tgt lv st ws) (kf : ¬ x = 0 → lx_W K nL E a b (pc + 3) lv st ws) : lx_W K nL E a b pc lv (.int x :: st) ws := fun H L ls h hP hD hS => lv_if_eq F.1.1 F.1.2.1 hd ht (fun q => kt q H L ls h hP hD hS) (fun q => kf q H L ls h hP hD hS)
theorem lx_icmpN_eq (F : lx_F K nL E cc own ret rm) {x y : Nat} {off : Int} (tgt : Nat) (hx : x < 2 ^ 31) (hy : y < 2 ^ 31) (hd : decode cc pc = .ok (.if_icmp .eq off, 3)) (ht : (pc : Int) + off = (tgt : Int)) (kt : x = y → lx_W K nL E a b tgt lv st ws) (kf : x ≠ y → lx_W K nL E a b (pc + 3) lv st ws) : lx_W K nL E a b pc lv (.int (nI y) :: .int (nI x) :: st) ws := lx_icmp_eq F tgt hd ht (fun q => kt ((nI_eq hx hy).mp q)) (fun q => kf (fun z => q ((nI_eq hx hy).mpr z)))
theorem lx_ifN_eq (F : lx_F K nL E cc own ret rm) {x : Nat} {off : Int} (tgt : Nat) (hx : x < 2 ^ 31) (hd : decode cc pc = .ok (.ifCond .eq off, 3)) (ht : (pc : Int) + off = (tgt : Int)) (kt : x = 0 → lx_W K nL E a b tgt lv st ws) (kf : x ≠ 0 → lx_W K nL E a b (pc + 3) lv st ws) : lx_W K nL E a b pc lv (.int (nI x) :: st) ws := by
  have hy : 0 < 2 ^ 31 := by decide
  refine lx_if_eq F tgt hd ht (fun q => kt ?_) (fun q => kf ?_) <;> rw [← nI_0] at q
  · exact (nI_eq hx hy).mp q
  · exact fun z => q ((nI_eq hx hy).mpr z)
theorem lx_icmp_ne (F : lx_F K nL E cc own ret rm) {x y : Int32} {off : Int} (tgt : Nat) (hd : decode cc pc = .ok (.if_icmp .ne off, 3)) (ht : (pc : Int) + off = (tgt : Int)) (kt : ¬ x = y → lx_W K nL E a b tgt lv st ws) (kf : x = y → lx_W K nL E a b (pc + 3) lv st ws) : lx_W K nL E a b pc lv (.int y :: .int x :: st) ws := fun H L ls h hP hD hS => lv_icmp_ne F.1.1 F.1.2.1 hd ht (fun q => kt q H L ls h hP hD hS) (fun q => kf q H L ls h hP hD hS)
theorem lx_if_ne (F : lx_F K nL E cc own ret rm) {x : Int32} {off : Int} (tgt : Nat) (hd : decode cc pc = .ok (.ifCond .ne off, 3)) (ht : (pc : Int) + off = (tgt : Int)) (kt : ¬ x = 0 → lx_W K nL E a b tgt lv st ws) (kf : x = 0 → lx_W K nL E a b (pc + 3) lv st ws) : lx_W K nL E a b pc lv (.int x :: st) ws := fun H L ls h hP hD hS => lv_if_ne F.1.1 F.1.2.1 hd ht (fun q => kt q H L ls h hP hD hS) (fun q => kf q H L ls h hP hD hS)
theorem lx_icmpN_ne (F : lx_F K nL E cc own ret rm) {x y : Nat} {off : Int} (tgt : Nat) (hx : x < 2 ^ 31) (hy : y < 2 ^ 31) (hd : decode cc pc = .ok (.if_icmp .ne off, 3)) (ht : (pc : Int) + off = (tgt : Int)) (kt : x ≠ y → lx_W K nL E a b tgt lv st ws) (kf : x = y → lx_W K nL E a b (pc + 3) lv st ws) : lx_W K nL E a b pc lv (.int (nI y) :: .int (nI x) :: st) ws := lx_icmp_ne F tgt hd ht (fun q => kt (fun z => q ((nI_eq hx hy).mpr z))) (fun q => kf ((nI_eq hx hy).mp q))
theorem lx_ifN_ne (F : lx_F K nL E cc own ret rm) {x : Nat} {off : Int} (tgt : Nat) (hx : x < 2 ^ 31) (hd : decode cc pc = .ok (.ifCond .ne off, 3)) (ht : (pc : Int) + off = (tgt : Int)) (kt : x ≠ 0 → lx_W K nL E a b tgt lv st ws) (kf : x = 0 → lx_W K nL E a b (pc + 3) lv st ws) : lx_W K nL E a b pc lv (.int (nI x) :: st) ws := by
  have hy : 0 < 2 ^ 31 := by decide
  refine lx_if_ne F tgt hd ht (fun q => kt ?_) (fun q => kf ?_) <;> rw [← nI_0] at q
  · exact fun z => q ((nI_eq hx hy).mpr z)
  · exact (nI_eq hx hy).mp q
theorem lx_icmp_lt (F : lx_F K nL E cc own ret rm) {x y : Int32} {off : Int} (tgt : Nat) (hd : decode cc pc = .ok (.if_icmp .lt off, 3)) (ht : (pc : Int) + off = (tgt : Int)) (kt : x < y → lx_W K nL E a b tgt lv st ws) (kf : ¬ x < y → lx_W K nL E a b (pc + 3) lv st ws) : lx_W K nL E a b pc lv (.int y :: .int x :: st) ws := fun H L ls h hP hD hS => lv_icmp_lt F.1.1 F.1.2.1 hd ht (fun q => kt q H L ls h hP hD hS) (fun q => kf q H L ls h hP hD hS)
theorem lx_if_lt (F : lx_F K nL E cc own ret rm) {x : Int32} {off : Int} (tgt : Nat) (hd : decode cc pc = .ok (.ifCond .lt off, 3)) (ht : (pc : Int) + off = (tgt : Int)) (kt : x < 0 → lx_W K nL E a b tgt lv st ws) (kf : ¬ x < 0 → lx_W K nL E a b (pc + 3) lv st ws) : lx_W K nL E a b pc lv (.int x :: st) ws := fun H L ls h hP hD hS => lv_if_lt F.1.1 F.1.2.1 hd ht (fun q => kt q H L ls h hP hD hS) (fun q => kf q H L ls h hP hD hS)
theorem lx_icmpN_lt (F : lx_F K nL E cc own ret rm) {x y : Nat} {off : Int} (tgt : Nat) (hx : x < 2 ^ 31) (hy : y < 2 ^ 31) (hd : decode cc pc = .ok (.if_icmp .lt off, 3)) (ht : (pc : Int) + off = (tgt : Int)) (kt : x < y → lx_W K nL E a b tgt lv st ws) (kf : y ≤ x → lx_W K nL E a b (pc + 3) lv st ws) : lx_W K nL E a b pc lv (.int (nI y) :: .int (nI x) :: st) ws := lx_icmp_lt F tgt hd ht (fun q => kt ((nI_ltI hx hy).mp q)) (fun q => kf (Nat.le_of_not_lt (fun z => q ((nI_ltI hx hy).mpr z))))
theorem lx_ifN_lt (F : lx_F K nL E cc own ret rm) {x : Nat} {off : Int} (tgt : Nat) (hx : x < 2 ^ 31) (hd : decode cc pc = .ok (.ifCond .lt off, 3)) (ht : (pc : Int) + off = (tgt : Int)) (kt : x < 0 → lx_W K nL E a b tgt lv st ws) (kf : 0 ≤ x → lx_W K nL E a b (pc + 3) lv st ws) : lx_W K nL E a b pc lv (.int (nI x) :: st) ws := by
  have hy : 0 < 2 ^ 31 := by decide
  refine lx_if_lt F tgt hd ht (fun q => kt ?_) (fun q => kf ?_) <;> rw [← nI_0] at q
  · exact (nI_ltI hx hy).mp q
  · exact Nat.le_of_not_lt (fun z => q ((nI_ltI hx hy).mpr z))
theorem lx_icmp_ge (F : lx_F K nL E cc own ret rm) {x y : Int32} {off : Int} (tgt : Nat) (hd : decode cc pc = .ok (.if_icmp .ge off, 3)) (ht : (pc : Int) + off = (tgt : Int)) (kt : y ≤ x → lx_W K nL E a b tgt lv st ws) (kf : ¬ y ≤ x → lx_W K nL E a b (pc + 3) lv st ws) : lx_W K nL E a b pc lv (.int y :: .int x :: st) ws := fun H L ls h hP hD hS => lv_icmp_ge F.1.1 F.1.2.1 hd ht (fun q => kt q H L ls h hP hD hS) (fun q => kf q H L ls h hP hD hS)
theorem lx_if_ge (F : lx_F K nL E cc own ret rm) {x : Int32} {off : Int} (tgt : Nat) (hd : decode cc pc = .ok (.ifCond .ge off, 3)) (ht : (pc : Int) + off = (tgt : Int)) (kt : 0 ≤ x → lx_W K nL E a b tgt lv st ws) (kf : ¬ 0 ≤ x → lx_W K nL E a b (pc + 3) lv st ws) : lx_W K nL E a b pc lv (.int x :: st) ws := fun H L ls h hP hD hS => lv_if_ge F.1.1 F.1.2.1 hd ht (fun q => kt q H L ls h hP hD hS) (fun q => kf q H L ls h hP hD hS)
theorem lx_icmpN_ge (F : lx_F K nL E cc own ret rm) {x y : Nat} {off : Int} (tgt : Nat) (hx : x < 2 ^ 31) (hy : y < 2 ^ 31) (hd : decode cc pc = .ok (.if_icmp .ge off, 3)) (ht : (pc : Int) + off = (tgt : Int)) (kt : y ≤ x → lx_W K nL E a b tgt lv st ws) (kf : x < y → lx_W K nL E a b (pc + 3) lv st ws) : lx_W K nL E a b pc lv (.int (nI y) :: .int (nI x) :: st) ws := lx_icmp_ge F tgt hd ht (fun q => kt ((nI_leI hy hx).mp q)) (fun q => kf (Nat.lt_of_not_le (fun z => q ((nI_leI hy hx).mpr z))))
theorem lx_ifN_ge (F : lx_F K nL E cc own ret rm) {x : Nat} {off : Int} (tgt : Nat) (hx : x < 2 ^ 31) (hd : decode cc pc = .ok (.ifCond .ge off, 3)) (ht : (pc : Int) + off = (tgt : Int)) (kt : 0 ≤ x → lx_W K nL E a b tgt lv st ws) (kf : x < 0 → lx_W K nL E a b (pc + 3) lv st ws) : lx_W K nL E a b pc lv (.int (nI x) :: st) ws := by
  have hy : 0 < 2 ^ 31 := by decide
  refine lx_if_ge F tgt hd ht (fun q => kt ?_) (fun q => kf ?_) <;> rw [← nI_0] at q
  · exact (nI_leI hy hx).mp q
  · exact Nat.lt_of_not_le (fun z => q ((nI_leI hy hx).mpr z))
theorem lx_icmp_gt (F : lx_F K nL E cc own ret rm) {x y : Int32} {off : Int} (tgt : Nat) (hd : decode cc pc = .ok (.if_icmp .gt off, 3)) (ht : (pc : Int) + off = (tgt : Int)) (kt : y < x → lx_W K nL E a b tgt lv st ws) (kf : ¬ y < x → lx_W K nL E a b (pc + 3) lv st ws) : lx_W K nL E a b pc lv (.int y :: .int x :: st) ws := fun H L ls h hP hD hS => lv_icmp_gt F.1.1 F.1.2.1 hd ht (fun q => kt q H L ls h hP hD hS) (fun q => kf q H L ls h hP hD hS)
theorem lx_if_gt (F : lx_F K nL E cc own ret rm) {x : Int32} {off : Int} (tgt : Nat) (hd : decode cc pc = .ok (.ifCond .gt off, 3)) (ht : (pc : Int) + off = (tgt : Int)) (kt : 0 < x → lx_W K nL E a b tgt lv st ws) (kf : ¬ 0 < x → lx_W K nL E a b (pc + 3) lv st ws) : lx_W K nL E a b pc lv (.int x :: st) ws := fun H L ls h hP hD hS => lv_if_gt F.1.1 F.1.2.1 hd ht (fun q => kt q H L ls h hP hD hS) (fun q => kf q H L ls h hP hD hS)
theorem lx_icmpN_gt (F : lx_F K nL E cc own ret rm) {x y : Nat} {off : Int} (tgt : Nat) (hx : x < 2 ^ 31) (hy : y < 2 ^ 31) (hd : decode cc pc = .ok (.if_icmp .gt off, 3)) (ht : (pc : Int) + off = (tgt : Int)) (kt : y < x → lx_W K nL E a b tgt lv st ws) (kf : x ≤ y → lx_W K nL E a b (pc + 3) lv st ws) : lx_W K nL E a b pc lv (.int (nI y) :: .int (nI x) :: st) ws := lx_icmp_gt F tgt hd ht (fun q => kt ((nI_ltI hy hx).mp q)) (fun q => kf (Nat.le_of_not_lt (fun z => q ((nI_ltI hy hx).mpr z))))
theorem lx_ifN_gt (F : lx_F K nL E cc own ret rm) {x : Nat} {off : Int} (tgt : Nat) (hx : x < 2 ^ 31) (hd : decode cc pc = .ok (.ifCond .gt off, 3)) (ht : (pc : Int) + off = (tgt : Int)) (kt : 0 < x → lx_W K nL E a b tgt lv st ws) (kf : x ≤ 0 → lx_W K nL E a b (pc + 3) lv st ws) : lx_W K nL E a b pc lv (.int (nI x) :: st) ws := by
  have hy : 0 < 2 ^ 31 := by decide
  refine lx_if_gt F tgt hd ht (fun q => kt ?_) (fun q => kf ?_) <;> rw [← nI_0] at q
  · exact (nI_ltI hy hx).mp q
  · exact Nat.le_of_not_lt (fun z => q ((nI_ltI hy hx).mpr z))
theorem lx_icmp_le (F : lx_F K nL E cc own ret rm) {x y : Int32} {off : Int} (tgt : Nat) (hd : decode cc pc = .ok (.if_icmp .le off, 3)) (ht : (pc : Int) + off = (tgt : Int)) (kt : x ≤ y → lx_W K nL E a b tgt lv st ws) (kf : ¬ x ≤ y → lx_W K nL E a b (pc + 3) lv st ws) : lx_W K nL E a b pc lv (.int y :: .int x :: st) ws := fun H L ls h hP hD hS => lv_icmp_le F.1.1 F.1.2.1 hd ht (fun q => kt q H L ls h hP hD hS) (fun q => kf q H L ls h hP hD hS)
theorem lx_if_le (F : lx_F K nL E cc own ret rm) {x : Int32} {off : Int} (tgt : Nat) (hd : decode cc pc = .ok (.ifCond .le off, 3)) (ht : (pc : Int) + off = (tgt : Int)) (kt : x ≤ 0 → lx_W K nL E a b tgt lv st ws) (kf : ¬ x ≤ 0 → lx_W K nL E a b (pc + 3) lv st ws) : lx_W K nL E a b pc lv (.int x :: st) ws := fun H L ls h hP hD hS => lv_if_le F.1.1 F.1.2.1 hd ht (fun q => kt q H L ls h hP hD hS) (fun q => kf q H L ls h hP hD hS)
theorem lx_icmpN_le (F : lx_F K nL E cc own ret rm) {x y : Nat} {off : Int} (tgt : Nat) (hx : x < 2 ^ 31) (hy : y < 2 ^ 31) (hd : decode cc pc = .ok (.if_icmp .le off, 3)) (ht : (pc : Int) + off = (tgt : Int)) (kt : x ≤ y → lx_W K nL E a b tgt lv st ws) (kf : y < x → lx_W K nL E a b (pc + 3) lv st ws) : lx_W K nL E a b pc lv (.int (nI y) :: .int (nI x) :: st) ws := lx_icmp_le F tgt hd ht (fun q => kt ((nI_leI hx hy).mp q)) (fun q => kf (Nat.lt_of_not_le (fun z => q ((nI_leI hx hy).mpr z))))
theorem lx_ifN_le (F : lx_F K nL E cc own ret rm) {x : Nat} {off : Int} (tgt : Nat) (hx : x < 2 ^ 31) (hd : decode cc pc = .ok (.ifCond .le off, 3)) (ht : (pc : Int) + off = (tgt : Int)) (kt : x ≤ 0 → lx_W K nL E a b tgt lv st ws) (kf : 0 < x → lx_W K nL E a b (pc + 3) lv st ws) : lx_W K nL E a b pc lv (.int (nI x) :: st) ws := by
  have hy : 0 < 2 ^ 31 := by decide
  refine lx_if_le F tgt hd ht (fun q => kt ?_) (fun q => kf ?_) <;> rw [← nI_0] at q
  · exact (nI_leI hx hy).mp q
  · exact Nat.lt_of_not_le (fun z => q ((nI_leI hx hy).mpr z))
theorem lx_lcmp_eq {x y : Int64} : lg_cmp x y = 0 ↔ x = y := by
  unfold lg_cmp
  by_cases h : y < x
  · have : x ≠ y := fun q => by rw [q] at h; exact absurd h Int64.lt_irrefl
    simp [h, this]
  · by_cases h2 : x = y
    · simp [h, h2]
    · simp [h, h2]
theorem lx_lcmp_lt {x y : Int64} : lg_cmp x y < 0 ↔ x < y := by
  have t := Int64.lt_iff_toInt_lt (x := x) (y := y)
  have t2 := Int64.lt_iff_toInt_lt (x := y) (y := x)
  have t3 := Int64.toInt_inj (x := x) (y := y)
  unfold lg_cmp
  by_cases h : y < x
  · rw [if_pos h]
    have : ¬ x < y := by rw [t]; rw [t2] at h; omega
    exact ⟨fun q => absurd q (by decide), fun q => absurd q this⟩
  · rw [if_neg h]
    by_cases h2 : x = y
    · have : ¬ x < y := by rw [t]; rw [← t3] at h2; omega
      simp only [h2]
      rw [h2] at this
      simp [this]
    · have : x < y := by rw [t]; rw [t2] at h; rw [← t3] at h2; omega
      simp [h2, this]
theorem lx_lcmp_gt {x y : Int64} : 0 < lg_cmp x y ↔ y < x := by
  unfold lg_cmp
  by_cases h : y < x
  · simp [h]
  · by_cases h2 : x = y
    · simp [h, h2]
    · simp [h, h2]
theorem lx_lcmp_ifeq (F : lx_F K nL E cc own ret rm) {x y : Int64} {off : Int} (tgt : Nat) (hd : decode cc pc = .ok (.lcmp, 1)) (hd2 : decode cc (pc + 1) = .ok (.ifCond .eq off, 3)) (ht : ((pc + 1 : Nat) : Int) + off = (tgt : Int)) (kt : x = y → lx_W K nL E a b tgt lv st ws) (kf : x ≠ y → lx_W K nL E a b (pc + 1 + 3) lv st ws) : lx_W K nL E a b pc lv (.long y :: .long x :: st) ws := fun H L ls h hP hD hS => W.lcmp F.1.1 F.1.2.1 hd (lx_if_eq F tgt hd2 ht (fun q => kt (lx_lcmp_eq.mp q)) (fun q => kf (fun z => q (lx_lcmp_eq.mpr z))) H L ls h hP hD hS)
theorem lx_lcmp_ifne (F : lx_F K nL E cc own ret rm) {x y : Int64} {off : Int} (tgt : Nat) (hd : decode cc pc = .ok (.lcmp, 1)) (hd2 : decode cc (pc + 1) = .ok (.ifCond .ne off, 3)) (ht : ((pc + 1 : Nat) : Int) + off = (tgt : Int)) (kt : x ≠ y → lx_W K nL E a b tgt lv st ws) (kf : x = y → lx_W K nL E a b (pc + 1 + 3) lv st ws) : lx_W K nL E a b pc lv (.long y :: .long x :: st) ws := fun H L ls h hP hD hS => W.lcmp F.1.1 F.1.2.1 hd (lx_if_ne F tgt hd2 ht (fun q => kt (fun z => q (lx_lcmp_eq.mpr z))) (fun q => kf (lx_lcmp_eq.mp q)) H L ls h hP hD hS)
theorem lx_lcmp_iflt (F : lx_F K nL E cc own ret rm) {x y : Int64} {off : Int} (tgt : Nat) (hd : decode cc pc = .ok (.lcmp, 1)) (hd2 : decode cc (pc + 1) = .ok (.ifCond .lt off, 3)) (ht : ((pc + 1 : Nat) : Int) + off = (tgt : Int)) (kt : x < y → lx_W K nL E a b tgt lv st ws) (kf : ¬ x < y → lx_W K nL E a b (pc + 1 + 3) lv st ws) : lx_W K nL E a b pc lv (.long y :: .long x :: st) ws := fun H L ls h hP hD hS => W.lcmp F.1.1 F.1.2.1 hd (lx_if_lt F tgt hd2 ht (fun q => kt (lx_lcmp_lt.mp q)) (fun q => kf (fun z => q (lx_lcmp_lt.mpr z))) H L ls h hP hD hS)
theorem lx_lcmp_ifge (F : lx_F K nL E cc own ret rm) {x y : Int64} {off : Int} (tgt : Nat) (hd : decode cc pc = .ok (.lcmp, 1)) (hd2 : decode cc (pc + 1) = .ok (.ifCond .ge off, 3)) (ht : ((pc + 1 : Nat) : Int) + off = (tgt : Int)) (kt : ¬ x < y → lx_W K nL E a b tgt lv st ws) (kf : x < y → lx_W K nL E a b (pc + 1 + 3) lv st ws) : lx_W K nL E a b pc lv (.long y :: .long x :: st) ws := fun H L ls h hP hD hS => W.lcmp F.1.1 F.1.2.1 hd (lx_if_ge F tgt hd2 ht (fun q => kt (fun z => (Int32.not_lt.mpr q) (lx_lcmp_lt.mpr z))) (fun q => kf (lx_lcmp_lt.mp (Int32.not_le.mp q))) H L ls h hP hD hS)
theorem lx_lcmp_ifgt (F : lx_F K nL E cc own ret rm) {x y : Int64} {off : Int} (tgt : Nat) (hd : decode cc pc = .ok (.lcmp, 1)) (hd2 : decode cc (pc + 1) = .ok (.ifCond .gt off, 3)) (ht : ((pc + 1 : Nat) : Int) + off = (tgt : Int)) (kt : y < x → lx_W K nL E a b tgt lv st ws) (kf : ¬ y < x → lx_W K nL E a b (pc + 1 + 3) lv st ws) : lx_W K nL E a b pc lv (.long y :: .long x :: st) ws := fun H L ls h hP hD hS => W.lcmp F.1.1 F.1.2.1 hd (lx_if_gt F tgt hd2 ht (fun q => kt (lx_lcmp_gt.mp q)) (fun q => kf (fun z => q (lx_lcmp_gt.mpr z))) H L ls h hP hD hS)
theorem lx_lcmp_ifle (F : lx_F K nL E cc own ret rm) {x y : Int64} {off : Int} (tgt : Nat) (hd : decode cc pc = .ok (.lcmp, 1)) (hd2 : decode cc (pc + 1) = .ok (.ifCond .le off, 3)) (ht : ((pc + 1 : Nat) : Int) + off = (tgt : Int)) (kt : ¬ y < x → lx_W K nL E a b tgt lv st ws) (kf : y < x → lx_W K nL E a b (pc + 1 + 3) lv st ws) : lx_W K nL E a b pc lv (.long y :: .long x :: st) ws := fun H L ls h hP hD hS => W.lcmp F.1.1 F.1.2.1 hd (lx_if_le F tgt hd2 ht (fun q => kt (fun z => (Int32.not_lt.mpr q) (lx_lcmp_gt.mpr z))) (fun q => kf (lx_lcmp_gt.mp (Int32.not_le.mp q))) H L ls h hP hD hS)
theorem lx_iald (F : lx_F K nL E cc own ret rm) (q0 n : Nat) {N q : Nat} {f : Nat → Int32} (hd : decode cc pc = .ok (.iaload, 1)) (he : ws[q0]? = some (q, aI K N f)) (hn : n < N) (hN : N < 2 ^ 31) (k : lx_W K nL E a b (pc + 1) lv (.int (f n) :: st) ws) : lx_W K nL E a b pc lv (.int (nI n) :: .ref q :: st) ws := fun H L ls h hP hD hS => va_iald F.1.1 F.1.2.1 F.2.1 hP q0 0 he rfl (vp_in_nI hn hN) hd (by rw [nI_clamp (Nat.lt_trans hn hN)]; exact k H L ls h hP hD hS)
theorem lx_lald (F : lx_F K nL E cc own ret rm) (q0 n : Nat) {N q : Nat} {f : Nat → Int64} (hd : decode cc pc = .ok (.laload, 1)) (he : ws[q0]? = some (q, aJ K N f)) (hn : n < N) (hN : N < 2 ^ 31) (k : lx_W K nL E a b (pc + 1) lv (.long (f n) :: st) ws) : lx_W K nL E a b pc lv (.int (nI n) :: .ref q :: st) ws := fun H L ls h hP hD hS => va_lald F.1.1 F.1.2.1 F.2.1 hP q0 1 he rfl (vp_in_nI hn hN) hd (by rw [nI_clamp (Nat.lt_trans hn hN)]; exact k H L ls h hP hD hS)
theorem lx_zald (F : lx_F K nL E cc own ret rm) (q0 n : Nat) {N q : Nat} {f : Nat → Int32} (hd : decode cc pc = .ok (.baload, 1)) (he : ws[q0]? = some (q, aZ K N f)) (hn : n < N) (hN : N < 2 ^ 31) (k : lx_W K nL E a b (pc + 1) lv (.int (f n) :: st) ws) : lx_W K nL E a b pc lv (.int (nI n) :: .ref q :: st) ws := fun H L ls h hP hD hS => va_zald F.1.1 F.1.2.1 F.2.1 hP q0 2 he rfl (vp_in_nI hn hN) hd (by rw [nI_clamp (Nat.lt_trans hn hN)]; exact k H L ls h hP hD hS)
theorem lx_iast (F : lx_F K nL E cc own ret rm) (q0 n : Nat) {N q : Nat} {f : Nat → Int32} {x : Int32} (ws' : va_W) (hd : decode cc pc = .ok (.iastore, 1)) (he : ws[q0]? = some (q, aI K N f)) (hn : n < N) (hN : N < 2 ^ 31) (hw : ws.set q0 (q, aI K N (lm_up f n x)) = ws') (k : lx_W K nL E a b (pc + 1) lv st ws') : lx_W K nL E a b pc lv (.int x :: .int (nI n) :: .ref q :: st) ws := fun H L ls h hP hD hS => va_iast F.1.1 F.1.2.1 F.2.1 hP hD hS q0 0 he rfl (vp_in_nI hn hN) hd (fun H1 L1 hP1 hD1 hS1 => by
    rw [nI_clamp (Nat.lt_trans hn hN)] at hP1 hD1
    subst hw
    exact k H1 L1 ls h hP1 hD1 hS1)
theorem lx_last (F : lx_F K nL E cc own ret rm) (q0 n : Nat) {N q : Nat} {f : Nat → Int64} {x : Int64} (ws' : va_W) (hd : decode cc pc = .ok (.lastore, 1)) (he : ws[q0]? = some (q, aJ K N f)) (hn : n < N) (hN : N < 2 ^ 31) (hw : ws.set q0 (q, aJ K N (lm_up f n x)) = ws') (k : lx_W K nL E a b (pc + 1) lv st ws') : lx_W K nL E a b pc lv (.long x :: .int (nI n) :: .ref q :: st) ws := fun H L ls h hP hD hS => va_last F.1.1 F.1.2.1 F.2.1 hP hD hS q0 1 he rfl (vp_in_nI hn hN) hd (fun H1 L1 hP1 hD1 hS1 => by
    rw [nI_clamp (Nat.lt_trans hn hN)] at hP1 hD1
    subst hw
    exact k H1 L1 ls h hP1 hD1 hS1)
theorem lx_zast (F : lx_F K nL E cc own ret rm) (q0 n : Nat) {N q : Nat} {f : Nat → Int32} {x : Int32} (ws' : va_W) (hd : decode cc pc = .ok (.bastore, 1)) (he : ws[q0]? = some (q, aZ K N f)) (hn : n < N) (hN : N < 2 ^ 31) (hx : vp_nar .boolean x = x) (hw : ws.set q0 (q, aZ K N (lm_up f n x)) = ws') (k : lx_W K nL E a b (pc + 1) lv st ws') : lx_W K nL E a b pc lv (.int x :: .int (nI n) :: .ref q :: st) ws := fun H L ls h hP hD hS => va_zast F.1.1 F.1.2.1 F.2.1 hP hD hS q0 2 he rfl (vp_in_nI hn hN) hd (fun H1 L1 hP1 hD1 hS1 => by
    rw [nI_clamp (Nat.lt_trans hn hN), hx] at hP1 hD1
    subst hw
    exact k H1 L1 ls h hP1 hD1 hS1)
theorem lx_alenI (F : lx_F K nL E cc own ret rm) (q0 : Nat) {N q : Nat} {f : Nat → Int32} (hd : decode cc pc = .ok (.arraylength, 1)) (he : ws[q0]? = some (q, aI K N f)) (k : lx_W K nL E a b (pc + 1) lv (.int (nI N) :: st) ws) : lx_W K nL E a b pc lv (.ref q :: st) ws := fun H L ls h hP hD hS => va_alen F.1.1 F.1.2.1 F.2.1 hP q0 0 he rfl rfl hd (k H L ls h hP hD hS)
theorem lx_alenJ (F : lx_F K nL E cc own ret rm) (q0 : Nat) {N q : Nat} {f : Nat → Int64} (hd : decode cc pc = .ok (.arraylength, 1)) (he : ws[q0]? = some (q, aJ K N f)) (k : lx_W K nL E a b (pc + 1) lv (.int (nI N) :: st) ws) : lx_W K nL E a b pc lv (.ref q :: st) ws := fun H L ls h hP hD hS => va_alen F.1.1 F.1.2.1 F.2.1 hP q0 1 he rfl rfl hd (k H L ls h hP hD hS)
theorem lx_fm {is : List Nat} {w : va_W} (h : is.map (fun i => ws[i]?) = w.map some) : is.filterMap (fun i => ws[i]?) = w := by
  have h1 := congrArg (List.filterMap id) h
  rw [List.filterMap_map] at h1
  rw [show (is.filterMap (fun i => ws[i]?)) = is.filterMap (id ∘ fun i => ws[i]?) from rfl, h1]
  simp [List.filterMap_map]
theorem lx_perm (is : List Nat) (ws' : va_W) (hn : va_nd is = true) (hs : is.map (fun i => ws[i]?) = ws'.map some) (k : lx_W K nL E a b pc lv st ws') : lx_W K nL E a b pc lv st ws := fun H L ls h hP hD hS => k H L ls h (hP.sub is (lx_fm hs)) (hD.sub is hn hs) hS
theorem lx_lv (ks : List Nat) (lv' : List (Nat × Value)) (hl : lv_pick lv ks = lv') (k : lx_W K nL E a b pc lv' st ws) : lx_W K nL E a b pc lv st ws := fun H L ls h hP hD hS => k H L ls (lv_sub h ks hl) hP hD hS
theorem lx_nmI {x : Int32} (k : ∀ y : Int32, y = x → lx_W K nL E a b pc lv (.int y :: st) ws) : lx_W K nL E a b pc lv (.int x :: st) ws := k x rfl
theorem lx_nmJ {x : Int64} (k : ∀ y : Int64, y = x → lx_W K nL E a b pc lv (.long y :: st) ws) : lx_W K nL E a b pc lv (.long x :: st) ws := k x rfl
theorem lx_wide {a' b' : Nat} (h1 : a ≤ a') (h2 : b ≤ b') (k : lx_W K nL E a' b' pc lv st ws) : lx_W K nL E a b pc lv st ws := fun H L ls h hP hD hS => W.widen h1 h2 (k H L ls h hP hD hS)
theorem lx_st {a' b' : Nat} (st' : List Value) (h1 : a = a') (h2 : b = b') (h3 : st = st') (k : lx_W K nL E a' b' pc lv st' ws) : lx_W K nL E a b pc lv st ws := by subst h1 h2 h3; exact k
theorem lx_pc {pc' : Nat} (h : pc = pc') (k : lx_W K nL E a b pc' lv st ws) : lx_W K nL E a b pc lv st ws := h ▸ k
theorem lx_iret (F : lx_F K nL E cc own (some .int) rm) {post : Option Value → va_W → Prop} {v : Int32} (hR : lx_RQ K E a b post) (hd : decode cc pc = .ok (.ireturn, 1)) (hp : post (some (.int v)) ws) : lx_W K nL E a b pc lv [.int v] ws := fun H L ls h hP hD hS => hR _ _ _ (W.iret F.1.1 F.1.2.1 F.2.2.2.2.1 (fun t ht hW => ⟨⟨_, _, rfl, hp, by rw [ht]; exact hP, hD⟩, hS.F ht⟩) hS.2.2 hd F.2.2.2.2.2.1)
theorem lx_lret (F : lx_F K nL E cc own (some .long) rm) {post : Option Value → va_W → Prop} {v : Int64} (hR : lx_RQ K E a b post) (hd : decode cc pc = .ok (.lreturn, 1)) (hp : post (some (.long v)) ws) : lx_W K nL E a b pc lv [.long v] ws := fun H L ls h hP hD hS => hR _ _ _ (W.lret F.1.1 F.1.2.1 F.2.2.2.2.1 (fun t ht hW => ⟨⟨_, _, rfl, hp, by rw [ht]; exact hP, hD⟩, hS.F ht⟩) hS.2.2 hd F.2.2.2.2.2.1)
theorem lx_zret (F : lx_F K nL E cc own (some .boolean) rm) {post : Option Value → va_W → Prop} {v : Int32} (hR : lx_RQ K E a b post) (hn : narrow .boolean (.int v) = .int v) (hd : decode cc pc = .ok (.ireturn, 1)) (hp : post (some (.int v)) ws) : lx_W K nL E a b pc lv [.int v] ws := fun H L ls h hP hD hS => hR _ _ _ (W.zret F.1.1 F.1.2.1 F.2.2.2.2.1 hn (fun t ht hW => ⟨⟨_, _, rfl, hp, by rw [ht]; exact hP, hD⟩, hS.F ht⟩) hS.2.2 hd F.2.2.2.2.2.1)
theorem lx_vret (F : lx_F K nL E cc own none rm) {post : Option Value → va_W → Prop} (hR : lx_RQ K E a b post) (hd : decode cc pc = .ok (.return_, 1)) (hp : post none ws) : lx_W K nL E a b pc lv [] ws := fun H L ls h hP hD hS => hR _ _ _ (W.vret F.1.1 F.1.2.1 F.2.2.2.2.1 (fun t ht hW => ⟨⟨_, _, rfl, hp, by rw [ht]; exact hP, hD⟩, hS.F ht⟩) hS.2.2 hd F.2.2.2.2.2.1)
theorem lx_ldc2 (F : lx_F K nL E cc own ret rm) {index : Nat} {v : Int64} (hd : decode cc pc = .ok (.ldc2_w index, 3)) (hc : Cond.constantLong own index v ∈ lm_T) (k : lx_W K nL E a b (pc + 3) lv (.long v :: st) ws) : lx_W K nL E a b pc lv st ws := fun H L ls h hP hD hS => lv_ldc2 F.1.1 F.1.2.1 F.1.2.2.2.1 (F.1.2.2.2.2 _ hc) hd (k H L ls h hP hD hS)
theorem lx_tableOut (F : lx_F K nL E cc own ret rm) {dflt lo hi : Int} {offs : Array Int} {len : Nat} {x : Int32} (tgt : Nat) (hd : decode cc pc = .ok (.tableswitch dflt lo hi offs, len)) (hx : x.toInt < lo ∨ hi < x.toInt) (ht : (pc : Int) + dflt = (tgt : Int)) (k : lx_W K nL E a b tgt lv st ws) : lx_W K nL E a b pc lv (.int x :: st) ws := fun H L ls h hP hD hS => lv_tableOut F.1.1 F.1.2.1 hd hx ht (k H L ls h hP hD hS)
theorem lx_tableIn (F : lx_F K nL E cc own ret rm) {dflt lo hi : Int} {offs : Array Int} {len : Nat} {x : Int32} {off : Int} (tgt : Nat) (hd : decode cc pc = .ok (.tableswitch dflt lo hi offs, len)) (h1 : ¬ x.toInt < lo) (h2 : ¬ hi < x.toInt) (ho : offs[(x.toInt - lo).toNat]? = some off) (ht : (pc : Int) + off = (tgt : Int)) (k : lx_W K nL E a b tgt lv st ws) : lx_W K nL E a b pc lv (.int x :: st) ws := fun H L ls h hP hD hS => lv_tableIn F.1.1 F.1.2.1 hd h1 h2 ho ht (k H L ls h hP hD hS)
theorem lx_lookup (F : lx_F K nL E cc own ret rm) {dflt : Int} {ps : Array (Int × Int)} {len : Nat} {x : Int32} {off : Int} (tgt : Nat) (hd : decode cc pc = .ok (.lookupswitch dflt ps, len)) (hp : (ps.toList.zip (ps.toList.drop 1)).all (fun (a, next) => a.1 < next.1) = true) (ho : Op.lookupswitch.offset ps.toList dflt x.toInt = off) (ht : (pc : Int) + off = (tgt : Int)) (k : lx_W K nL E a b tgt lv st ws) : lx_W K nL E a b pc lv (.int x :: st) ws := fun H L ls h hP hD hS => lv_lookup F.1.1 F.1.2.1 hd hp ho ht (k H L ls h hP hD hS)
theorem lx_newI (F : lx_F K nL E cc own ret rm) (n : Nat) (hd : decode cc pc = .ok (.newarray .int, 2)) (hc : Cond.arrayClass .int ∈ lm_T) (hn : n < 2 ^ 20) (hcells : a + 1 ≤ rm.cells) (hslots : b + n ≤ rm.slots) (k : ∀ q : Nat, lx_W K nL E (a + 1) (b + n) (pc + 2) lv (.ref q :: st) (ws ++ [(q, aI K n (fun _ => 0))])) : lx_W K nL E a b pc lv (.int (nI n) :: st) ws := by
  intro H L ls h hP hD hS
  have hR : xR E = rm := F.2.2.2.2.2.2
  have hn31 : n < 2 ^ 31 := Nat.lt_trans hn (by decide)
  refine va_newa F.1.1 F.1.2.1 (atype := .int) (ty := .int) (N' := n) (a0 := (n, .inl (fun _ => 0))) (F.1.2.2.2.2 _ hc) rfl F.2.1 hP hD hS F.2.2.2.1 (fun cA => by first | rfl | simp [vp_cell, defaultValue]) (nI_pos hn31) (nI_clamp hn31) (by simp only [componentBytes]; omega) (by rw [hR]; exact hcells) (by rw [hR]; exact hslots) hd (fun q cA H1 hK1 hP1 hD1 hS1 => ?_)
  have e1 := (F.2.1.2 0 _ rfl).2
  have e2 := (hK1.2 3 _ rfl).2
  have e3 : cA = K.2.1 := by
    have g1 : (xs E).vm.findClass _ = some _ := e1
    have g2 : (xs E).vm.findClass _ = some cA := e2
    exact Option.some.inj (g2.symm.trans g1)
  subst e3
  exact k q H1 L ls h hP1 hD1 hS1
theorem lx_newJ (F : lx_F K nL E cc own ret rm) (n : Nat) (hd : decode cc pc = .ok (.newarray .long, 2)) (hc : Cond.arrayClass .long ∈ lm_T) (hn : n < 2 ^ 20) (hcells : a + 1 ≤ rm.cells) (hslots : b + n ≤ rm.slots) (k : ∀ q : Nat, lx_W K nL E (a + 1) (b + n) (pc + 2) lv (.ref q :: st) (ws ++ [(q, aJ K n (fun _ => 0))])) : lx_W K nL E a b pc lv (.int (nI n) :: st) ws := by
  intro H L ls h hP hD hS
  have hR : xR E = rm := F.2.2.2.2.2.2
  have hn31 : n < 2 ^ 31 := Nat.lt_trans hn (by decide)
  refine va_newa F.1.1 F.1.2.1 (atype := .long) (ty := .long) (N' := n) (a0 := (n, .inr (.inl (fun _ => 0)))) (F.1.2.2.2.2 _ hc) rfl F.2.1 hP hD hS F.2.2.2.1 (fun cA => by first | rfl | simp [vp_cell, defaultValue]) (nI_pos hn31) (nI_clamp hn31) (by simp only [componentBytes]; omega) (by rw [hR]; exact hcells) (by rw [hR]; exact hslots) hd (fun q cA H1 hK1 hP1 hD1 hS1 => ?_)
  have e1 := (F.2.1.2 1 _ rfl).2
  have e2 := (hK1.2 3 _ rfl).2
  have e3 : cA = K.2.2.1 := by
    have g1 : (xs E).vm.findClass _ = some _ := e1
    have g2 : (xs E).vm.findClass _ = some cA := e2
    exact Option.some.inj (g2.symm.trans g1)
  subst e3
  exact k q H1 L ls h hP1 hD1 hS1
theorem lx_newZ (F : lx_F K nL E cc own ret rm) (n : Nat) (hd : decode cc pc = .ok (.newarray .boolean, 2)) (hc : Cond.arrayClass .boolean ∈ lm_T) (hn : n < 2 ^ 20) (hcells : a + 1 ≤ rm.cells) (hslots : b + n ≤ rm.slots) (k : ∀ q : Nat, lx_W K nL E (a + 1) (b + n) (pc + 2) lv (.ref q :: st) (ws ++ [(q, aZ K n (fun _ => 0))])) : lx_W K nL E a b pc lv (.int (nI n) :: st) ws := by
  intro H L ls h hP hD hS
  have hR : xR E = rm := F.2.2.2.2.2.2
  have hn31 : n < 2 ^ 31 := Nat.lt_trans hn (by decide)
  refine va_newa F.1.1 F.1.2.1 (atype := .boolean) (ty := .boolean) (N' := n) (a0 := (n, .inl (fun _ => 0))) (F.1.2.2.2.2 _ hc) rfl F.2.1 hP hD hS F.2.2.2.1 (fun cA => by first | rfl | simp [vp_cell, defaultValue]) (nI_pos hn31) (nI_clamp hn31) (by simp only [componentBytes]; omega) (by rw [hR]; exact hcells) (by rw [hR]; exact hslots) hd (fun q cA H1 hK1 hP1 hD1 hS1 => ?_)
  have e1 := (F.2.1.2 2 _ rfl).2
  have e2 := (hK1.2 3 _ rfl).2
  have e3 : cA = K.2.2.2 := by
    have g1 : (xs E).vm.findClass _ = some _ := e1
    have g2 : (xs E).vm.findClass _ = some cA := e2
    exact Option.some.inj (g2.symm.trans g1)
  subst e3
  exact k q H1 L ls h hP1 hD1 hS1
end LXR
end
section
/-! Calls, and a contract's start, by the judgement lx_W -/
theorem lm_good {w : Cond} (h : w ∈ lm_T) : goodWord w = true := (List.mem_filter.mp h).2
def lx_ok (y : MethodName) (n : Nat) : Prop := y.cls ≠ "java/lang/invoke/MethodHandle" ∧ y.cls ≠ "java/lang/invoke/VarHandle" ∧ (parseMethodDescriptor y.desc).map (fun d => d.parameters.length) = some n
def lx_wc (M : lm_Me) : Cond := .code M.1 M.2.1 M.2.2.1 M.2.2.2
def lx_wS (own : String) (index : Nat) (M : lm_Me) (n : Nat) : Prop := lx_wc M ∈ lm_T ∧ Cond.initialized M.1.cls ∈ lm_T ∧ Cond.methodLink own index M.1 ∈ lm_T ∧ Cond.static M.1 ∈ lm_T ∧ lx_ok M.1 n
def lx_wV (own : String) (index : Nat) (M : lm_Me) (n : Nat) : Prop := lx_wc M ∈ lm_T ∧ Cond.initialized M.1.cls ∈ lm_T ∧ Cond.methodLink own index M.1 ∈ lm_T ∧ (Cond.instanceMethod M.1 ∈ lm_T ∧ Cond.selects M.1.cls M.1 M.1 ∈ lm_T) ∧ lx_ok M.1 n
def lx_wI (own : String) (index : Nat) (M : lm_Me) (n : Nat) : Prop := lx_wc M ∈ lm_T ∧ Cond.initialized M.1.cls ∈ lm_T ∧ Cond.methodLink own index M.1 ∈ lm_T ∧ (M.2.2.2 = none ∧ M.1.name = "<init>" ∧ Cond.instanceMethod M.1 ∈ lm_T) ∧ lx_ok M.1 n
def lx_wSN (own : String) (index : Nat) (M : lm_Me) (host : String) (n : Nat) : Prop := lx_wc M ∈ lm_T ∧ Cond.initialized M.1.cls ∈ lm_T ∧ Cond.methodLinkNest own index M.1 host ∈ lw_tbl ∧ Cond.static M.1 ∈ lm_T ∧ lx_ok M.1 n
def lx_wIN (own : String) (index : Nat) (M : lm_Me) (host : String) (n : Nat) : Prop := lx_wc M ∈ lm_T ∧ Cond.initialized M.1.cls ∈ lm_T ∧ Cond.methodLinkNest own index M.1 host ∈ lw_tbl ∧ (M.2.2.2 = none ∧ M.1.name = "<init>" ∧ Cond.instanceMethod M.1 ∈ lm_T) ∧ lx_ok M.1 n
theorem lx_goodIn {M : lm_Me} (h : lx_wc M ∈ lm_T) : GoodIn lm_T (lm_W M) := by
  intro w hw
  have h1 : w ∈ lm_T := by
    rcases List.mem_cons.mp hw with e | e
    · rw [e]; exact h
    · exact e
  exact ⟨h1, good_of_word (lm_good h1)⟩
section LXC
variable {K : lm_G} {nL : Nat} {E : lx_E} {cc : ByteArray} {own : String} {ret : Option FieldType} {rm : Room} {a b pc : Nat} {lv : List (Nat × Value)} {st : List Value} {ws : va_W}
variable {M : lm_Me} {rm' : Room} {as stk : List Value} {wc : va_W} {post : Option Value → va_W → Prop} {index n : Nat} {H : Heap}
theorem lx_pre (F : lx_F K nL E cc own ret rm) (hP : va_P K.1 lmCl ws H) (hD : va_D (xA E) ws) (isC : List Nat) (hC : isC.map (fun i => ws[i]?) = wc.map some) (hnd : va_nd isC = true) : PreS (xs E) H (va_Pc as (lm_In K wc H.size)) as :=
  ⟨fun av U g mk q => by
    obtain ⟨q0, q1, qP, qK, qD, qN⟩ := q
    exact ⟨q0, q1, qP, va_K.moved (u := U) (U := U.calling g mk av) (Vm.Alike.refl U.vm) qK, qD, lm_N.same (u := U) (U := U.calling g mk av) rfl qN⟩,
   fun U hU hW => ⟨rfl, by rw [hU], by rw [hU]; exact hP.sub isC (lx_fm hC), va_K.moved hW.alike F.2.1, (hD.sub isC hnd hC).weaken (fun _ _ _ _ => trivial), lm_N.warm hW F.2.2.1⟩⟩
theorem lx_fin (F : lx_F K nL E cc own ret rm) {wr : va_W} {L : List Loc} {ls : Array Slot} {av : Array Value} (isC isR : List Nat) (hC : isC.map (fun i => ws[i]?) = wc.map some) (hRs : isR.map (fun i => ws[i]?) = wr.map some) (hnr : va_nd isR = true) (hdis : ∀ i ∈ isR, i ∉ isC)
    (h : lv_has ls nL lv) (hP : va_P K.1 lmCl ws H) (hD : va_D (xA E) ws) (hS : va_S (xA E) (xs E).heap H L)
    (hr : va_Run (xp E) (xl E) (xe E) (xR E) (xs E) (xm E) (xa E) (xb E) (xt E) (xc E) H L a b rm'.cells rm'.slots (F0 (xm E) pc ls stk) st (lm_Q K (va_A wc H.size) post av) (va_A wc H.size))
    (k : ∀ (v : Option Value) (w : va_W), post v w → lx_W K nL E (a + rm'.cells) (b + rm'.slots) (pc + 3) lv (v.toList ++ st) (wr ++ w)) :
    W (xp E) (xl E) (xe E) (xR E) (xs E) (xm E) (xa E) (xb E) (xt E) (xc E) H L a b (xq E) (F0 (xm E) pc ls stk) := by
  have hF := va_free hD hS F.2.2.2.1 isC hC
  intro T hT X
  obtain ⟨v, st₀, t, T', L', h0, X', hL, e1, e2, ⟨⟨v', w, hv, hp, hPw, hDw⟩, hFr⟩, sg⟩ := hr T hT X
  cases hv
  obtain ⟨k1, k2, k3⟩ := vx_keep h0 e1 hS (fun q _ hq => hF q hq) hF hL hFr
  rw [← e1] at hPw
  obtain ⟨hP', hD'⟩ := va_join hP hD isC isR hC hRs hnr hdis k2 hF hPw hDw
  obtain ⟨t2, a1, b1⟩ := k _ w hp T'.heap (L ++ L') ls h hP' hD' k3 T' rfl X'
  exact ⟨t2, sg t2 a1, b1⟩
theorem lx_cs (F : lx_F K nL E cc own ret rm) (hM : lm_C (xl E) K M rm' as wc post) (hw : lx_wS own index M n) (isC isR : List Nat) (wr : va_W) (hC : isC.map (fun i => ws[i]?) = wc.map some) (hRs : isR.map (fun i => ws[i]?) = wr.map some) (hq : va_nd isC = true ∧ va_nd isR = true ∧ ∀ i ∈ isR, i ∉ isC) (hn : as.length = n) (hst : stk = as.reverse ++ st) (hcat : (st.map fun v => v.category).sum ≤ 8) (hR : rm'.frames + 1 ≤ rm.frames ∧ 8 + (M.2.2.1 + 11) + rm'.locals ≤ rm.locals) (hf : a + rm'.cells ≤ rm.cells ∧ b + rm'.slots ≤ rm.slots) (hd : decode cc pc = .ok (.invokestatic index, 3))
    (k : ∀ (v : Option Value) (w : va_W), post v w → lx_W K nL E (a + rm'.cells) (b + rm'.slots) (pc + 3) lv (v.toList ++ st) (wr ++ w)) : lx_W K nL E a b pc lv stk ws := by
  intro H L ls h hP hD hS
  have hRm : xR E = rm := F.2.2.2.2.2.2
  exact lx_fin F isC isR hC hRs hq.2.1 hq.2.2 h hP hD hS (va_runS (ret := M.2.2.2) F.1 (hM H.size) ⟨callB_of n F.1.2.2.2.2 (lx_goodIn hw.1) rfl rfl rfl (F.1.2.2.2.2 _ hw.2.1) (F.1.2.2.2.2 _ hw.2.2.1) hw.2.2.2.2 (by rw [hRm]; exact hR), F.1.2.2.2.2 _ hw.2.2.2.1⟩ (lx_pre F hP hD isC hC hq.1) rfl hn h.1 hst (lv_room hcat) hd (by rw [hRm]; exact hf)) k
theorem lx_csn (F : lx_F K nL E cc own ret rm) {host : String} (hM : lm_C (xl E) K M rm' as wc post) (hw : lx_wSN own index M host n) (isC isR : List Nat) (wr : va_W) (hC : isC.map (fun i => ws[i]?) = wc.map some) (hRs : isR.map (fun i => ws[i]?) = wr.map some) (hq : va_nd isC = true ∧ va_nd isR = true ∧ ∀ i ∈ isR, i ∉ isC) (hn : as.length = n) (hst : stk = as.reverse ++ st) (hcat : (st.map fun v => v.category).sum ≤ 8) (hR : rm'.frames + 1 ≤ rm.frames ∧ 8 + (M.2.2.1 + 11) + rm'.locals ≤ rm.locals) (hf : a + rm'.cells ≤ rm.cells ∧ b + rm'.slots ≤ rm.slots) (hd : decode cc pc = .ok (.invokestatic index, 3))
    (k : ∀ (v : Option Value) (w : va_W), post v w → lx_W K nL E (a + rm'.cells) (b + rm'.slots) (pc + 3) lv (v.toList ++ st) (wr ++ w)) : lx_W K nL E a b pc lv stk ws := by
  intro H L ls h hP hD hS
  have hRm : xR E = rm := F.2.2.2.2.2.2
  exact lx_fin F isC isR hC hRs hq.2.1 hq.2.2 h hP hD hS (va_runSN (ret := M.2.2.2) F.1 (hM H.size) ⟨va_cnB n F.1.2.2.2.2 (lx_goodIn hw.1) rfl rfl rfl (F.2.2.1 _ hw.2.2.1 rfl) (F.1.2.2.2.2 _ hw.2.1) hw.2.2.2.2 (by rw [hRm]; exact hR), F.1.2.2.2.2 _ hw.2.2.2.1, trivial⟩ (lx_pre F hP hD isC hC hq.1) rfl hn h.1 hst (lv_room hcat) hd (by rw [hRm]; exact hf)) k
theorem lx_cv (F : lx_F K nL E cc own ret rm) {r : Nat} (hM : lm_C (xl E) K M rm' (.ref r :: as) wc post) (hw : lx_wV own index M n) (q0 : Nat) {ci : Nat} {fs : List Value} {T : u_T} {N : Nat} (hc : lmCl[ci]? = some (M.1.cls, T, N)) (he : ws[q0]? = some (r, .inr (ci, fs))) (isC isR : List Nat) (wr : va_W) (hC : isC.map (fun i => ws[i]?) = wc.map some) (hRs : isR.map (fun i => ws[i]?) = wr.map some) (hq : va_nd isC = true ∧ va_nd isR = true ∧ ∀ i ∈ isR, i ∉ isC) (hn : as.length = n) (hst : stk = as.reverse ++ .ref r :: st) (hcat : (st.map fun v => v.category).sum ≤ 8) (hR : rm'.frames + 1 ≤ rm.frames ∧ 8 + (M.2.2.1 + 11) + rm'.locals ≤ rm.locals) (hf : a + rm'.cells ≤ rm.cells ∧ b + rm'.slots ≤ rm.slots) (hd : decode cc pc = .ok (.invokevirtual index, 3))
    (k : ∀ (v : Option Value) (w : va_W), post v w → lx_W K nL E (a + rm'.cells) (b + rm'.slots) (pc + 3) lv (v.toList ++ st) (wr ++ w)) : lx_W K nL E a b pc lv stk ws := by
  intro H L ls h hP hD hS
  have hRm : xR E = rm := F.2.2.2.2.2.2
  have hpre := lx_pre (as := .ref r :: as) F hP hD isC hC hq.1
  exact lx_fin F isC isR hC hRs hq.2.1 hq.2.2 h hP hD hS (va_runV (ret := M.2.2.2) (C := M.1.cls) F.1 (hM H.size) ⟨callB_of n F.1.2.2.2.2 (lx_goodIn hw.1) rfl rfl rfl (F.1.2.2.2.2 _ hw.2.1) (F.1.2.2.2.2 _ hw.2.2.1) hw.2.2.2.2 (by rw [hRm]; exact hR), F.1.2.2.2.2 _ hw.2.2.2.1.1, F.1.2.2.2.2 _ hw.2.2.2.1.2⟩ ⟨hpre.1, va_recv F.2.1 hP hc he, hpre.2⟩ rfl hn h.1 hst (lv_room hcat) hd (by rw [hRm]; exact hf)) k
theorem lx_cin (F : lx_F K nL E cc own ret rm) {host : String} {r : Nat} {y : MethodName} {cb : ByteArray} {mL : Nat} (hM : lm_C (xl E) K (y, cb, mL, none) rm' (.ref r :: as) wc post) (hw : lx_wIN own index (y, cb, mL, none) host n) (isC isR : List Nat) (wr : va_W) (hC : isC.map (fun i => ws[i]?) = wc.map some) (hRs : isR.map (fun i => ws[i]?) = wr.map some) (hq : va_nd isC = true ∧ va_nd isR = true ∧ ∀ i ∈ isR, i ∉ isC) (hn : as.length = n) (hst : stk = as.reverse ++ .ref r :: st) (hcat : (st.map fun v => v.category).sum ≤ 8) (hR : rm'.frames + 1 ≤ rm.frames ∧ 8 + (mL + 11) + rm'.locals ≤ rm.locals) (hf : a + rm'.cells ≤ rm.cells ∧ b + rm'.slots ≤ rm.slots) (hd : decode cc pc = .ok (.invokespecial index, 3))
    (k : ∀ (v : Option Value) (w : va_W), post v w → lx_W K nL E (a + rm'.cells) (b + rm'.slots) (pc + 3) lv (v.toList ++ st) (wr ++ w)) : lx_W K nL E a b pc lv stk ws := by
  intro H L ls h hP hD hS
  have hRm : xR E = rm := F.2.2.2.2.2.2
  exact lx_fin F isC isR hC hRs hq.2.1 hq.2.2 h hP hD hS (va_runIN F.1 (hM H.size) ⟨va_cnB n F.1.2.2.2.2 (lx_goodIn hw.1) rfl rfl rfl (F.2.2.1 _ hw.2.2.1 rfl) (F.1.2.2.2.2 _ hw.2.1) hw.2.2.2.2 (by rw [hRm]; exact hR), hw.2.2.2.1.2.1, F.1.2.2.2.2 _ hw.2.2.2.1.2.2⟩ (lx_pre F hP hD isC hC hq.1) rfl hn h.1 hst (lv_room hcat) hd (by rw [hRm]; exact hf)) k
theorem lx_ci (F : lx_F K nL E cc own ret rm) {r : Nat} {y : MethodName} {cb : ByteArray} {mL : Nat} (hM : lm_C (xl E) K (y, cb, mL, none) rm' (.ref r :: as) wc post) (hw : lx_wI own index (y, cb, mL, none) n) (isC isR : List Nat) (wr : va_W) (hC : isC.map (fun i => ws[i]?) = wc.map some) (hRs : isR.map (fun i => ws[i]?) = wr.map some) (hq : va_nd isC = true ∧ va_nd isR = true ∧ ∀ i ∈ isR, i ∉ isC) (hn : as.length = n) (hst : stk = as.reverse ++ .ref r :: st) (hcat : (st.map fun v => v.category).sum ≤ 8) (hR : rm'.frames + 1 ≤ rm.frames ∧ 8 + (mL + 11) + rm'.locals ≤ rm.locals) (hf : a + rm'.cells ≤ rm.cells ∧ b + rm'.slots ≤ rm.slots) (hd : decode cc pc = .ok (.invokespecial index, 3))
    (k : ∀ (v : Option Value) (w : va_W), post v w → lx_W K nL E (a + rm'.cells) (b + rm'.slots) (pc + 3) lv (v.toList ++ st) (wr ++ w)) : lx_W K nL E a b pc lv stk ws := by
  intro H L ls h hP hD hS
  have hRm : xR E = rm := F.2.2.2.2.2.2
  exact lx_fin F isC isR hC hRs hq.2.1 hq.2.2 h hP hD hS (va_runI F.1 (hM H.size) ⟨callB_of n F.1.2.2.2.2 (lx_goodIn hw.1) rfl rfl rfl (F.1.2.2.2.2 _ hw.2.1) (F.1.2.2.2.2 _ hw.2.2.1) hw.2.2.2.2 (by rw [hRm]; exact hR), hw.2.2.2.1.2.1, F.1.2.2.2.2 _ hw.2.2.2.1.2.2⟩ (lx_pre F hP hD isC hC hq.1) rfl hn h.1 hst (lv_room hcat) hd (by rw [hRm]; exact hf)) k
theorem lx_obj (F : lx_F K nL E cc own ret rm) {r idx : Nat} (hl : Cond.methodLink own idx objectInit ∈ lm_T) (hi : Cond.instanceMethod objectInit ∈ lm_T) (hcd : Cond.code objectInit ⟨#[0xb1]⟩ 1 none ∈ lm_T) (hfr : 1 ≤ rm.frames) (hlo : 12 ≤ rm.locals) (hd : decode cc pc = .ok (.invokespecial idx, 3)) (k : lx_W K nL E a b (pc + 3) lv [] ws) : lx_W K nL E a b pc lv [.ref r] ws := by
  intro H L ls h hP hD hS
  have hRm : xR E = rm := F.2.2.2.2.2.2
  exact W.objInit F.1.1 F.1.2.1 F.1.2.2.2.1 (F.1.2.2.2.2 _ hl) (F.1.2.2.2.2 _ hi) (F.1.2.2.2.2 _ hcd) rfl (h.1.trans F.1.2.2.1.symm) rfl hd (by rw [hRm]; exact hfr) (by rw [hRm]; exact hlo) (k H L ls h hP hD hS)
end LXC
/-- a contract's start -/
theorem lx_met {l : Launch} {K : lm_G} {M : lm_Me} {rm : Room} {as : List Value} {ws : va_W} {post : Option Value → va_W → Prop} (own : String) (hy : plainName M.1.cls = true) (ho : M.1.cls = own) (hnl : (lg_sl as).length ≤ M.2.2.1)
    (body : ∀ E : lx_E, xl E = l → (xt E).name = M.1.name → lx_F K M.2.2.1 E M.2.1 own M.2.2.2 rm → lx_RQ K E rm.cells rm.slots post → lx_W K M.2.2.1 E 0 0 0 (lv_args 0 as) [] ws) : lm_C l K M rm as ws post := by
  intro sz
  refine Met.ofW (cc := M.2.1) (maxL := M.2.2.1) (ret := M.2.2.2) hy rfl ?_
  intro p e s m args below meth c s₁ B hml hv
  obtain ⟨rfl, hsz, hP, hK, hD0, hN⟩ := hv
  have hts := atoms_spec (ws := lm_W M) B.pre
  have hown : s.vm.findClass own = some m.cls := by rw [← ho]; exact findClass_of_methodNamed B.named
  have hin : meth.name = M.1.name := (name_of_methodNamed B.named B.method).1
  subst hsz
  have hl := lv_entry as (n := M.2.2.1) hnl
  rw [lg_entry_eq]
  exact body (p, l, e, (headSpec (lm_W M) rm).room, s, m, as.toArray, below, meth, c, _, va_A ws s.heap.size) rfl hin ⟨⟨B.exec, B.bytes, hml, hown, fun w hw => hts w (List.mem_cons_of_mem _ hw)⟩, hK, hN, fun q h => Or.inr h, B.returns, B.notSynchronized, rfl⟩ (fun _ _ _ k => k) s.heap [] _ hl hP hD0.self va_S.rf
end
section
theorem in_X0 : ∀ w ∈ u_ws RX0 TX0 5, w ∈ lm_T := by
  intro w h
  obtain ⟨k, hk, rfl⟩ := List.mem_map.mp h
  have hk := List.mem_range.mp hk
  rcases (show k = 0 ∨ k = 1 ∨ k = 2 ∨ k = 3 ∨ k = 4 by omega) with rfl | rfl | rfl | rfl | rfl
  · exact tb_34
  · exact tb_36
  · exact tb_38
  · exact tb_40
  · exact tb_42
theorem in_X1 : ∀ w ∈ u_ws RX1 TX1 3, w ∈ lm_T := by
  intro w h
  obtain ⟨k, hk, rfl⟩ := List.mem_map.mp h
  have hk := List.mem_range.mp hk
  rcases (show k = 0 ∨ k = 1 ∨ k = 2 by omega) with rfl | rfl | rfl
  · exact tb_77
  · exact tb_79
  · exact tb_81
theorem in_X2 : ∀ w ∈ u_ws RX2 TX2 4, w ∈ lm_T := by
  intro w h
  obtain ⟨k, hk, rfl⟩ := List.mem_map.mp h
  have hk := List.mem_range.mp hk
  rcases (show k = 0 ∨ k = 1 ∨ k = 2 ∨ k = 3 by omega) with rfl | rfl | rfl | rfl
  · exact tb_57
  · exact tb_59
  · exact tb_61
  · exact tb_63
theorem in_X3 : ∀ w ∈ u_ws RX3 TX3 7, w ∈ lm_T := by
  intro w h
  obtain ⟨k, hk, rfl⟩ := List.mem_map.mp h
  have hk := List.mem_range.mp hk
  rcases (show k = 0 ∨ k = 1 ∨ k = 2 ∨ k = 3 ∨ k = 4 ∨ k = 5 ∨ k = 6 by omega) with rfl | rfl | rfl | rfl | rfl | rfl | rfl
  · exact tb_91
  · exact tb_93
  · exact tb_95
  · exact tb_97
  · exact tb_99
  · exact tb_101
  · exact tb_103
theorem in_X4 : ∀ w ∈ u_ws RX4 TX4 21, w ∈ lm_T := by
  intro w h
  obtain ⟨k, hk, rfl⟩ := List.mem_map.mp h
  have hk := List.mem_range.mp hk
  rcases (show k = 0 ∨ k = 1 ∨ k = 2 ∨ k = 3 ∨ k = 4 ∨ k = 5 ∨ k = 6 ∨ k = 7 ∨ k = 8 ∨ k = 9 ∨ k = 10 ∨ k = 11 ∨ k = 12 ∨ k = 13 ∨ k = 14 ∨ k = 15 ∨ k = 16 ∨ k = 17 ∨ k = 18 ∨ k = 19 ∨ k = 20 by omega) with rfl | rfl | rfl | rfl | rfl | rfl | rfl | rfl | rfl | rfl | rfl | rfl | rfl | rfl | rfl | rfl | rfl | rfl | rfl | rfl | rfl
  · exact tb_552
  · exact tb_554
  · exact tb_556
  · exact tb_558
  · exact tb_560
  · exact tb_562
  · exact tb_564
  · exact tb_566
  · exact tb_568
  · exact tb_570
  · exact tb_572
  · exact tb_574
  · exact tb_576
  · exact tb_578
  · exact tb_580
  · exact tb_582
  · exact tb_584
  · exact tb_586
  · exact tb_588
  · exact tb_590
  · exact tb_592
theorem kj_X3_156 : Cond.constantLong RX3 156 (jI 3) ∈ lm_T := tb_132
theorem kj_X3_158 : Cond.constantLong RX3 158 (jI 120) ∈ lm_T := tb_140
theorem gf_X0_15 {K : lm_G} {nL : Nat} {E : lx_E} {cc : ByteArray} {ret : Option FieldType} {rm : Room} {a b pc : Nat} {lv : List (Nat × Value)} {st : List Value} {ws : va_W} (F : lx_F K nL E cc RX0 ret rm) (q0 : Nat) {q : Nat} {fs : List Value} {v : Value} (he : ws[q0]? = some (q, .inr (0, fs))) (hv : fs[1]? = some v) (hd : decode cc pc = .ok (.getfield 15, 3)) (k : lx_W K nL E a b (pc + 3) lv (v :: st) ws) : lx_W K nL E a b pc lv (.ref q :: st) ws := fun H L ls h hP hD hS => va_get (T := TX0) F.1.1 F.1.2.1 F.1.2.2.2.2 in_X0 F.1.2.2.2.1 F.2.1 hP q0 he rfl 1 (by decide) (F.1.2.2.2.2 _ tb_30) (fun _ h => h) hv hd (k H L ls h hP hD hS)
theorem gf_X0_18 {K : lm_G} {nL : Nat} {E : lx_E} {cc : ByteArray} {ret : Option FieldType} {rm : Room} {a b pc : Nat} {lv : List (Nat × Value)} {st : List Value} {ws : va_W} (F : lx_F K nL E cc RX0 ret rm) (q0 : Nat) {q : Nat} {fs : List Value} {v : Value} (he : ws[q0]? = some (q, .inr (0, fs))) (hv : fs[2]? = some v) (hd : decode cc pc = .ok (.getfield 18, 3)) (k : lx_W K nL E a b (pc + 3) lv (v :: st) ws) : lx_W K nL E a b pc lv (.ref q :: st) ws := fun H L ls h hP hD hS => va_get (T := TX0) F.1.1 F.1.2.1 F.1.2.2.2.2 in_X0 F.1.2.2.2.1 F.2.1 hP q0 he rfl 2 (by decide) (F.1.2.2.2.2 _ tb_31) (fun _ h => h) hv hd (k H L ls h hP hD hS)
theorem gf_X0_21 {K : lm_G} {nL : Nat} {E : lx_E} {cc : ByteArray} {ret : Option FieldType} {rm : Room} {a b pc : Nat} {lv : List (Nat × Value)} {st : List Value} {ws : va_W} (F : lx_F K nL E cc RX0 ret rm) (q0 : Nat) {q : Nat} {fs : List Value} {v : Value} (he : ws[q0]? = some (q, .inr (0, fs))) (hv : fs[3]? = some v) (hd : decode cc pc = .ok (.getfield 21, 3)) (k : lx_W K nL E a b (pc + 3) lv (v :: st) ws) : lx_W K nL E a b pc lv (.ref q :: st) ws := fun H L ls h hP hD hS => va_get (T := TX0) F.1.1 F.1.2.1 F.1.2.2.2.2 in_X0 F.1.2.2.2.1 F.2.1 hP q0 he rfl 3 (by decide) (F.1.2.2.2.2 _ tb_32) (fun _ h => h) hv hd (k H L ls h hP hD hS)
theorem gf_X0_24 {K : lm_G} {nL : Nat} {E : lx_E} {cc : ByteArray} {ret : Option FieldType} {rm : Room} {a b pc : Nat} {lv : List (Nat × Value)} {st : List Value} {ws : va_W} (F : lx_F K nL E cc RX0 ret rm) (q0 : Nat) {q : Nat} {fs : List Value} {v : Value} (he : ws[q0]? = some (q, .inr (0, fs))) (hv : fs[4]? = some v) (hd : decode cc pc = .ok (.getfield 24, 3)) (k : lx_W K nL E a b (pc + 3) lv (v :: st) ws) : lx_W K nL E a b pc lv (.ref q :: st) ws := fun H L ls h hP hD hS => va_get (T := TX0) F.1.1 F.1.2.1 F.1.2.2.2.2 in_X0 F.1.2.2.2.1 F.2.1 hP q0 he rfl 4 (by decide) (F.1.2.2.2.2 _ tb_33) (fun _ h => h) hv hd (k H L ls h hP hD hS)
theorem gf_X0_58 {K : lm_G} {nL : Nat} {E : lx_E} {cc : ByteArray} {ret : Option FieldType} {rm : Room} {a b pc : Nat} {lv : List (Nat × Value)} {st : List Value} {ws : va_W} (F : lx_F K nL E cc RX0 ret rm) (q0 : Nat) {q : Nat} {fs : List Value} {v : Value} (he : ws[q0]? = some (q, .inr (1, fs))) (hv : fs[2]? = some v) (hd : decode cc pc = .ok (.getfield 58, 3)) (k : lx_W K nL E a b (pc + 3) lv (v :: st) ws) : lx_W K nL E a b pc lv (.ref q :: st) ws := fun H L ls h hP hD hS => va_getN (T := TX1) F.1.1 F.1.2.1 F.1.2.2.2.2 in_X1 F.1.2.2.2.1 F.2.1 hP q0 he rfl 2 (by decide) (va_Nw.use rfl (F.2.2.1 _ tb_75 rfl)) (fun _ h => h) hv hd (k H L ls h hP hD hS)
theorem gf_X0_9 {K : lm_G} {nL : Nat} {E : lx_E} {cc : ByteArray} {ret : Option FieldType} {rm : Room} {a b pc : Nat} {lv : List (Nat × Value)} {st : List Value} {ws : va_W} (F : lx_F K nL E cc RX0 ret rm) (q0 : Nat) {q : Nat} {fs : List Value} {v : Value} (he : ws[q0]? = some (q, .inr (0, fs))) (hv : fs[0]? = some v) (hd : decode cc pc = .ok (.getfield 9, 3)) (k : lx_W K nL E a b (pc + 3) lv (v :: st) ws) : lx_W K nL E a b pc lv (.ref q :: st) ws := fun H L ls h hP hD hS => va_get (T := TX0) F.1.1 F.1.2.1 F.1.2.2.2.2 in_X0 F.1.2.2.2.1 F.2.1 hP q0 he rfl 0 (by decide) (F.1.2.2.2.2 _ tb_29) (fun _ h => h) hv hd (k H L ls h hP hD hS)
theorem gf_X1_15 {K : lm_G} {nL : Nat} {E : lx_E} {cc : ByteArray} {ret : Option FieldType} {rm : Room} {a b pc : Nat} {lv : List (Nat × Value)} {st : List Value} {ws : va_W} (F : lx_F K nL E cc RX1 ret rm) (q0 : Nat) {q : Nat} {fs : List Value} {v : Value} (he : ws[q0]? = some (q, .inr (1, fs))) (hv : fs[1]? = some v) (hd : decode cc pc = .ok (.getfield 15, 3)) (k : lx_W K nL E a b (pc + 3) lv (v :: st) ws) : lx_W K nL E a b pc lv (.ref q :: st) ws := fun H L ls h hP hD hS => va_get (T := TX1) F.1.1 F.1.2.1 F.1.2.2.2.2 in_X1 F.1.2.2.2.1 F.2.1 hP q0 he rfl 1 (by decide) (F.1.2.2.2.2 _ tb_73) (fun _ h => h) hv hd (k H L ls h hP hD hS)
theorem gf_X1_19 {K : lm_G} {nL : Nat} {E : lx_E} {cc : ByteArray} {ret : Option FieldType} {rm : Room} {a b pc : Nat} {lv : List (Nat × Value)} {st : List Value} {ws : va_W} (F : lx_F K nL E cc RX1 ret rm) (q0 : Nat) {q : Nat} {fs : List Value} {v : Value} (he : ws[q0]? = some (q, .inr (1, fs))) (hv : fs[2]? = some v) (hd : decode cc pc = .ok (.getfield 19, 3)) (k : lx_W K nL E a b (pc + 3) lv (v :: st) ws) : lx_W K nL E a b pc lv (.ref q :: st) ws := fun H L ls h hP hD hS => va_get (T := TX1) F.1.1 F.1.2.1 F.1.2.2.2.2 in_X1 F.1.2.2.2.1 F.2.1 hP q0 he rfl 2 (by decide) (F.1.2.2.2.2 _ tb_74) (fun _ h => h) hv hd (k H L ls h hP hD hS)
theorem gf_X1_9 {K : lm_G} {nL : Nat} {E : lx_E} {cc : ByteArray} {ret : Option FieldType} {rm : Room} {a b pc : Nat} {lv : List (Nat × Value)} {st : List Value} {ws : va_W} (F : lx_F K nL E cc RX1 ret rm) (q0 : Nat) {q : Nat} {fs : List Value} {v : Value} (he : ws[q0]? = some (q, .inr (1, fs))) (hv : fs[0]? = some v) (hd : decode cc pc = .ok (.getfield 9, 3)) (k : lx_W K nL E a b (pc + 3) lv (v :: st) ws) : lx_W K nL E a b pc lv (.ref q :: st) ws := fun H L ls h hP hD hS => va_get (T := TX1) F.1.1 F.1.2.1 F.1.2.2.2.2 in_X1 F.1.2.2.2.1 F.2.1 hP q0 he rfl 0 (by decide) (F.1.2.2.2.2 _ tb_72) (fun _ h => h) hv hd (k H L ls h hP hD hS)
theorem gf_X2_15 {K : lm_G} {nL : Nat} {E : lx_E} {cc : ByteArray} {ret : Option FieldType} {rm : Room} {a b pc : Nat} {lv : List (Nat × Value)} {st : List Value} {ws : va_W} (F : lx_F K nL E cc RX2 ret rm) (q0 : Nat) {q : Nat} {fs : List Value} {v : Value} (he : ws[q0]? = some (q, .inr (2, fs))) (hv : fs[1]? = some v) (hd : decode cc pc = .ok (.getfield 15, 3)) (k : lx_W K nL E a b (pc + 3) lv (v :: st) ws) : lx_W K nL E a b pc lv (.ref q :: st) ws := fun H L ls h hP hD hS => va_get (T := TX2) F.1.1 F.1.2.1 F.1.2.2.2.2 in_X2 F.1.2.2.2.1 F.2.1 hP q0 he rfl 1 (by decide) (F.1.2.2.2.2 _ tb_54) (fun _ h => h) hv hd (k H L ls h hP hD hS)
theorem gf_X2_18 {K : lm_G} {nL : Nat} {E : lx_E} {cc : ByteArray} {ret : Option FieldType} {rm : Room} {a b pc : Nat} {lv : List (Nat × Value)} {st : List Value} {ws : va_W} (F : lx_F K nL E cc RX2 ret rm) (q0 : Nat) {q : Nat} {fs : List Value} {v : Value} (he : ws[q0]? = some (q, .inr (2, fs))) (hv : fs[2]? = some v) (hd : decode cc pc = .ok (.getfield 18, 3)) (k : lx_W K nL E a b (pc + 3) lv (v :: st) ws) : lx_W K nL E a b pc lv (.ref q :: st) ws := fun H L ls h hP hD hS => va_get (T := TX2) F.1.1 F.1.2.1 F.1.2.2.2.2 in_X2 F.1.2.2.2.1 F.2.1 hP q0 he rfl 2 (by decide) (F.1.2.2.2.2 _ tb_55) (fun _ h => h) hv hd (k H L ls h hP hD hS)
theorem gf_X2_21 {K : lm_G} {nL : Nat} {E : lx_E} {cc : ByteArray} {ret : Option FieldType} {rm : Room} {a b pc : Nat} {lv : List (Nat × Value)} {st : List Value} {ws : va_W} (F : lx_F K nL E cc RX2 ret rm) (q0 : Nat) {q : Nat} {fs : List Value} {v : Value} (he : ws[q0]? = some (q, .inr (2, fs))) (hv : fs[3]? = some v) (hd : decode cc pc = .ok (.getfield 21, 3)) (k : lx_W K nL E a b (pc + 3) lv (v :: st) ws) : lx_W K nL E a b pc lv (.ref q :: st) ws := fun H L ls h hP hD hS => va_get (T := TX2) F.1.1 F.1.2.1 F.1.2.2.2.2 in_X2 F.1.2.2.2.1 F.2.1 hP q0 he rfl 3 (by decide) (F.1.2.2.2.2 _ tb_56) (fun _ h => h) hv hd (k H L ls h hP hD hS)
theorem gf_X2_9 {K : lm_G} {nL : Nat} {E : lx_E} {cc : ByteArray} {ret : Option FieldType} {rm : Room} {a b pc : Nat} {lv : List (Nat × Value)} {st : List Value} {ws : va_W} (F : lx_F K nL E cc RX2 ret rm) (q0 : Nat) {q : Nat} {fs : List Value} {v : Value} (he : ws[q0]? = some (q, .inr (2, fs))) (hv : fs[0]? = some v) (hd : decode cc pc = .ok (.getfield 9, 3)) (k : lx_W K nL E a b (pc + 3) lv (v :: st) ws) : lx_W K nL E a b pc lv (.ref q :: st) ws := fun H L ls h hP hD hS => va_get (T := TX2) F.1.1 F.1.2.1 F.1.2.2.2.2 in_X2 F.1.2.2.2.1 F.2.1 hP q0 he rfl 0 (by decide) (F.1.2.2.2.2 _ tb_53) (fun _ h => h) hv hd (k H L ls h hP hD hS)
theorem gf_X3_16 {K : lm_G} {nL : Nat} {E : lx_E} {cc : ByteArray} {ret : Option FieldType} {rm : Room} {a b pc : Nat} {lv : List (Nat × Value)} {st : List Value} {ws : va_W} (F : lx_F K nL E cc RX3 ret rm) (q0 : Nat) {q : Nat} {fs : List Value} {v : Value} (he : ws[q0]? = some (q, .inr (3, fs))) (hv : fs[1]? = some v) (hd : decode cc pc = .ok (.getfield 16, 3)) (k : lx_W K nL E a b (pc + 3) lv (v :: st) ws) : lx_W K nL E a b pc lv (.ref q :: st) ws := fun H L ls h hP hD hS => va_get (T := TX3) F.1.1 F.1.2.1 F.1.2.2.2.2 in_X3 F.1.2.2.2.1 F.2.1 hP q0 he rfl 1 (by decide) (F.1.2.2.2.2 _ tb_85) (fun _ h => h) hv hd (k H L ls h hP hD hS)
theorem gf_X3_27 {K : lm_G} {nL : Nat} {E : lx_E} {cc : ByteArray} {ret : Option FieldType} {rm : Room} {a b pc : Nat} {lv : List (Nat × Value)} {st : List Value} {ws : va_W} (F : lx_F K nL E cc RX3 ret rm) (q0 : Nat) {q : Nat} {fs : List Value} {v : Value} (he : ws[q0]? = some (q, .inr (3, fs))) (hv : fs[3]? = some v) (hd : decode cc pc = .ok (.getfield 27, 3)) (k : lx_W K nL E a b (pc + 3) lv (v :: st) ws) : lx_W K nL E a b pc lv (.ref q :: st) ws := fun H L ls h hP hD hS => va_get (T := TX3) F.1.1 F.1.2.1 F.1.2.2.2.2 in_X3 F.1.2.2.2.1 F.2.1 hP q0 he rfl 3 (by decide) (F.1.2.2.2.2 _ tb_87) (fun _ h => h) hv hd (k H L ls h hP hD hS)
theorem gf_X3_34 {K : lm_G} {nL : Nat} {E : lx_E} {cc : ByteArray} {ret : Option FieldType} {rm : Room} {a b pc : Nat} {lv : List (Nat × Value)} {st : List Value} {ws : va_W} (F : lx_F K nL E cc RX3 ret rm) (q0 : Nat) {q : Nat} {fs : List Value} {v : Value} (he : ws[q0]? = some (q, .inr (3, fs))) (hv : fs[4]? = some v) (hd : decode cc pc = .ok (.getfield 34, 3)) (k : lx_W K nL E a b (pc + 3) lv (v :: st) ws) : lx_W K nL E a b pc lv (.ref q :: st) ws := fun H L ls h hP hD hS => va_get (T := TX3) F.1.1 F.1.2.1 F.1.2.2.2.2 in_X3 F.1.2.2.2.1 F.2.1 hP q0 he rfl 4 (by decide) (F.1.2.2.2.2 _ tb_88) (fun _ h => h) hv hd (k H L ls h hP hD hS)
theorem gf_X3_38 {K : lm_G} {nL : Nat} {E : lx_E} {cc : ByteArray} {ret : Option FieldType} {rm : Room} {a b pc : Nat} {lv : List (Nat × Value)} {st : List Value} {ws : va_W} (F : lx_F K nL E cc RX3 ret rm) (q0 : Nat) {q : Nat} {fs : List Value} {v : Value} (he : ws[q0]? = some (q, .inr (3, fs))) (hv : fs[5]? = some v) (hd : decode cc pc = .ok (.getfield 38, 3)) (k : lx_W K nL E a b (pc + 3) lv (v :: st) ws) : lx_W K nL E a b pc lv (.ref q :: st) ws := fun H L ls h hP hD hS => va_get (T := TX3) F.1.1 F.1.2.1 F.1.2.2.2.2 in_X3 F.1.2.2.2.1 F.2.1 hP q0 he rfl 5 (by decide) (F.1.2.2.2.2 _ tb_89) (fun _ h => h) hv hd (k H L ls h hP hD hS)
theorem gf_X3_41 {K : lm_G} {nL : Nat} {E : lx_E} {cc : ByteArray} {ret : Option FieldType} {rm : Room} {a b pc : Nat} {lv : List (Nat × Value)} {st : List Value} {ws : va_W} (F : lx_F K nL E cc RX3 ret rm) (q0 : Nat) {q : Nat} {fs : List Value} {v : Value} (he : ws[q0]? = some (q, .inr (3, fs))) (hv : fs[6]? = some v) (hd : decode cc pc = .ok (.getfield 41, 3)) (k : lx_W K nL E a b (pc + 3) lv (v :: st) ws) : lx_W K nL E a b pc lv (.ref q :: st) ws := fun H L ls h hP hD hS => va_get (T := TX3) F.1.1 F.1.2.1 F.1.2.2.2.2 in_X3 F.1.2.2.2.1 F.2.1 hP q0 he rfl 6 (by decide) (F.1.2.2.2.2 _ tb_90) (fun _ h => h) hv hd (k H L ls h hP hD hS)
theorem gf_X3_77 {K : lm_G} {nL : Nat} {E : lx_E} {cc : ByteArray} {ret : Option FieldType} {rm : Room} {a b pc : Nat} {lv : List (Nat × Value)} {st : List Value} {ws : va_W} (F : lx_F K nL E cc RX3 ret rm) (q0 : Nat) {q : Nat} {fs : List Value} {v : Value} (he : ws[q0]? = some (q, .inr (1, fs))) (hv : fs[2]? = some v) (hd : decode cc pc = .ok (.getfield 77, 3)) (k : lx_W K nL E a b (pc + 3) lv (v :: st) ws) : lx_W K nL E a b pc lv (.ref q :: st) ws := fun H L ls h hP hD hS => va_getN (T := TX1) F.1.1 F.1.2.1 F.1.2.2.2.2 in_X1 F.1.2.2.2.1 F.2.1 hP q0 he rfl 2 (by decide) (va_Nw.use rfl (F.2.2.1 _ tb_76 rfl)) (fun _ h => h) hv hd (k H L ls h hP hD hS)
theorem gf_X3_9 {K : lm_G} {nL : Nat} {E : lx_E} {cc : ByteArray} {ret : Option FieldType} {rm : Room} {a b pc : Nat} {lv : List (Nat × Value)} {st : List Value} {ws : va_W} (F : lx_F K nL E cc RX3 ret rm) (q0 : Nat) {q : Nat} {fs : List Value} {v : Value} (he : ws[q0]? = some (q, .inr (3, fs))) (hv : fs[0]? = some v) (hd : decode cc pc = .ok (.getfield 9, 3)) (k : lx_W K nL E a b (pc + 3) lv (v :: st) ws) : lx_W K nL E a b pc lv (.ref q :: st) ws := fun H L ls h hP hD hS => va_get (T := TX3) F.1.1 F.1.2.1 F.1.2.2.2.2 in_X3 F.1.2.2.2.1 F.2.1 hP q0 he rfl 0 (by decide) (F.1.2.2.2.2 _ tb_84) (fun _ h => h) hv hd (k H L ls h hP hD hS)
theorem gf_X4_13 {K : lm_G} {nL : Nat} {E : lx_E} {cc : ByteArray} {ret : Option FieldType} {rm : Room} {a b pc : Nat} {lv : List (Nat × Value)} {st : List Value} {ws : va_W} (F : lx_F K nL E cc RX4 ret rm) (q0 : Nat) {q : Nat} {fs : List Value} {v : Value} (he : ws[q0]? = some (q, .inr (4, fs))) (hv : fs[2]? = some v) (hd : decode cc pc = .ok (.getfield 13, 3)) (k : lx_W K nL E a b (pc + 3) lv (v :: st) ws) : lx_W K nL E a b pc lv (.ref q :: st) ws := fun H L ls h hP hD hS => va_get (T := TX4) F.1.1 F.1.2.1 F.1.2.2.2.2 in_X4 F.1.2.2.2.1 F.2.1 hP q0 he rfl 2 (by decide) (F.1.2.2.2.2 _ tb_533) (fun _ h => h) hv hd (k H L ls h hP hD hS)
theorem gf_X4_16 {K : lm_G} {nL : Nat} {E : lx_E} {cc : ByteArray} {ret : Option FieldType} {rm : Room} {a b pc : Nat} {lv : List (Nat × Value)} {st : List Value} {ws : va_W} (F : lx_F K nL E cc RX4 ret rm) (q0 : Nat) {q : Nat} {fs : List Value} {v : Value} (he : ws[q0]? = some (q, .inr (4, fs))) (hv : fs[3]? = some v) (hd : decode cc pc = .ok (.getfield 16, 3)) (k : lx_W K nL E a b (pc + 3) lv (v :: st) ws) : lx_W K nL E a b pc lv (.ref q :: st) ws := fun H L ls h hP hD hS => va_get (T := TX4) F.1.1 F.1.2.1 F.1.2.2.2.2 in_X4 F.1.2.2.2.1 F.2.1 hP q0 he rfl 3 (by decide) (F.1.2.2.2.2 _ tb_534) (fun _ h => h) hv hd (k H L ls h hP hD hS)
theorem gf_X4_20 {K : lm_G} {nL : Nat} {E : lx_E} {cc : ByteArray} {ret : Option FieldType} {rm : Room} {a b pc : Nat} {lv : List (Nat × Value)} {st : List Value} {ws : va_W} (F : lx_F K nL E cc RX4 ret rm) (q0 : Nat) {q : Nat} {fs : List Value} {v : Value} (he : ws[q0]? = some (q, .inr (4, fs))) (hv : fs[5]? = some v) (hd : decode cc pc = .ok (.getfield 20, 3)) (k : lx_W K nL E a b (pc + 3) lv (v :: st) ws) : lx_W K nL E a b pc lv (.ref q :: st) ws := fun H L ls h hP hD hS => va_get (T := TX4) F.1.1 F.1.2.1 F.1.2.2.2.2 in_X4 F.1.2.2.2.1 F.2.1 hP q0 he rfl 5 (by decide) (F.1.2.2.2.2 _ tb_536) (fun _ h => h) hv hd (k H L ls h hP hD hS)
theorem gf_X4_23 {K : lm_G} {nL : Nat} {E : lx_E} {cc : ByteArray} {ret : Option FieldType} {rm : Room} {a b pc : Nat} {lv : List (Nat × Value)} {st : List Value} {ws : va_W} (F : lx_F K nL E cc RX4 ret rm) (q0 : Nat) {q : Nat} {fs : List Value} {v : Value} (he : ws[q0]? = some (q, .inr (4, fs))) (hv : fs[6]? = some v) (hd : decode cc pc = .ok (.getfield 23, 3)) (k : lx_W K nL E a b (pc + 3) lv (v :: st) ws) : lx_W K nL E a b pc lv (.ref q :: st) ws := fun H L ls h hP hD hS => va_get (T := TX4) F.1.1 F.1.2.1 F.1.2.2.2.2 in_X4 F.1.2.2.2.1 F.2.1 hP q0 he rfl 6 (by decide) (F.1.2.2.2.2 _ tb_537) (fun _ h => h) hv hd (k H L ls h hP hD hS)
theorem gf_X4_26 {K : lm_G} {nL : Nat} {E : lx_E} {cc : ByteArray} {ret : Option FieldType} {rm : Room} {a b pc : Nat} {lv : List (Nat × Value)} {st : List Value} {ws : va_W} (F : lx_F K nL E cc RX4 ret rm) (q0 : Nat) {q : Nat} {fs : List Value} {v : Value} (he : ws[q0]? = some (q, .inr (4, fs))) (hv : fs[10]? = some v) (hd : decode cc pc = .ok (.getfield 26, 3)) (k : lx_W K nL E a b (pc + 3) lv (v :: st) ws) : lx_W K nL E a b pc lv (.ref q :: st) ws := fun H L ls h hP hD hS => va_get (T := TX4) F.1.1 F.1.2.1 F.1.2.2.2.2 in_X4 F.1.2.2.2.1 F.2.1 hP q0 he rfl 10 (by decide) (F.1.2.2.2.2 _ tb_541) (fun _ h => h) hv hd (k H L ls h hP hD hS)
theorem gf_X4_29 {K : lm_G} {nL : Nat} {E : lx_E} {cc : ByteArray} {ret : Option FieldType} {rm : Room} {a b pc : Nat} {lv : List (Nat × Value)} {st : List Value} {ws : va_W} (F : lx_F K nL E cc RX4 ret rm) (q0 : Nat) {q : Nat} {fs : List Value} {v : Value} (he : ws[q0]? = some (q, .inr (4, fs))) (hv : fs[12]? = some v) (hd : decode cc pc = .ok (.getfield 29, 3)) (k : lx_W K nL E a b (pc + 3) lv (v :: st) ws) : lx_W K nL E a b pc lv (.ref q :: st) ws := fun H L ls h hP hD hS => va_get (T := TX4) F.1.1 F.1.2.1 F.1.2.2.2.2 in_X4 F.1.2.2.2.1 F.2.1 hP q0 he rfl 12 (by decide) (F.1.2.2.2.2 _ tb_543) (fun _ h => h) hv hd (k H L ls h hP hD hS)
theorem gf_X4_32 {K : lm_G} {nL : Nat} {E : lx_E} {cc : ByteArray} {ret : Option FieldType} {rm : Room} {a b pc : Nat} {lv : List (Nat × Value)} {st : List Value} {ws : va_W} (F : lx_F K nL E cc RX4 ret rm) (q0 : Nat) {q : Nat} {fs : List Value} {v : Value} (he : ws[q0]? = some (q, .inr (4, fs))) (hv : fs[13]? = some v) (hd : decode cc pc = .ok (.getfield 32, 3)) (k : lx_W K nL E a b (pc + 3) lv (v :: st) ws) : lx_W K nL E a b pc lv (.ref q :: st) ws := fun H L ls h hP hD hS => va_get (T := TX4) F.1.1 F.1.2.1 F.1.2.2.2.2 in_X4 F.1.2.2.2.1 F.2.1 hP q0 he rfl 13 (by decide) (F.1.2.2.2.2 _ tb_544) (fun _ h => h) hv hd (k H L ls h hP hD hS)
theorem gf_X4_35 {K : lm_G} {nL : Nat} {E : lx_E} {cc : ByteArray} {ret : Option FieldType} {rm : Room} {a b pc : Nat} {lv : List (Nat × Value)} {st : List Value} {ws : va_W} (F : lx_F K nL E cc RX4 ret rm) (q0 : Nat) {q : Nat} {fs : List Value} {v : Value} (he : ws[q0]? = some (q, .inr (4, fs))) (hv : fs[14]? = some v) (hd : decode cc pc = .ok (.getfield 35, 3)) (k : lx_W K nL E a b (pc + 3) lv (v :: st) ws) : lx_W K nL E a b pc lv (.ref q :: st) ws := fun H L ls h hP hD hS => va_get (T := TX4) F.1.1 F.1.2.1 F.1.2.2.2.2 in_X4 F.1.2.2.2.1 F.2.1 hP q0 he rfl 14 (by decide) (F.1.2.2.2.2 _ tb_545) (fun _ h => h) hv hd (k H L ls h hP hD hS)
theorem gf_X4_38 {K : lm_G} {nL : Nat} {E : lx_E} {cc : ByteArray} {ret : Option FieldType} {rm : Room} {a b pc : Nat} {lv : List (Nat × Value)} {st : List Value} {ws : va_W} (F : lx_F K nL E cc RX4 ret rm) (q0 : Nat) {q : Nat} {fs : List Value} {v : Value} (he : ws[q0]? = some (q, .inr (4, fs))) (hv : fs[15]? = some v) (hd : decode cc pc = .ok (.getfield 38, 3)) (k : lx_W K nL E a b (pc + 3) lv (v :: st) ws) : lx_W K nL E a b pc lv (.ref q :: st) ws := fun H L ls h hP hD hS => va_get (T := TX4) F.1.1 F.1.2.1 F.1.2.2.2.2 in_X4 F.1.2.2.2.1 F.2.1 hP q0 he rfl 15 (by decide) (F.1.2.2.2.2 _ tb_546) (fun _ h => h) hv hd (k H L ls h hP hD hS)
theorem gf_X4_50 {K : lm_G} {nL : Nat} {E : lx_E} {cc : ByteArray} {ret : Option FieldType} {rm : Room} {a b pc : Nat} {lv : List (Nat × Value)} {st : List Value} {ws : va_W} (F : lx_F K nL E cc RX4 ret rm) (q0 : Nat) {q : Nat} {fs : List Value} {v : Value} (he : ws[q0]? = some (q, .inr (4, fs))) (hv : fs[20]? = some v) (hd : decode cc pc = .ok (.getfield 50, 3)) (k : lx_W K nL E a b (pc + 3) lv (v :: st) ws) : lx_W K nL E a b pc lv (.ref q :: st) ws := fun H L ls h hP hD hS => va_get (T := TX4) F.1.1 F.1.2.1 F.1.2.2.2.2 in_X4 F.1.2.2.2.1 F.2.1 hP q0 he rfl 20 (by decide) (F.1.2.2.2.2 _ tb_551) (fun _ h => h) hv hd (k H L ls h hP hD hS)
theorem gf_X4_54 {K : lm_G} {nL : Nat} {E : lx_E} {cc : ByteArray} {ret : Option FieldType} {rm : Room} {a b pc : Nat} {lv : List (Nat × Value)} {st : List Value} {ws : va_W} (F : lx_F K nL E cc RX4 ret rm) (q0 : Nat) {q : Nat} {fs : List Value} {v : Value} (he : ws[q0]? = some (q, .inr (4, fs))) (hv : fs[0]? = some v) (hd : decode cc pc = .ok (.getfield 54, 3)) (k : lx_W K nL E a b (pc + 3) lv (v :: st) ws) : lx_W K nL E a b pc lv (.ref q :: st) ws := fun H L ls h hP hD hS => va_get (T := TX4) F.1.1 F.1.2.1 F.1.2.2.2.2 in_X4 F.1.2.2.2.1 F.2.1 hP q0 he rfl 0 (by decide) (F.1.2.2.2.2 _ tb_531) (fun _ h => h) hv hd (k H L ls h hP hD hS)
theorem gf_X4_58 {K : lm_G} {nL : Nat} {E : lx_E} {cc : ByteArray} {ret : Option FieldType} {rm : Room} {a b pc : Nat} {lv : List (Nat × Value)} {st : List Value} {ws : va_W} (F : lx_F K nL E cc RX4 ret rm) (q0 : Nat) {q : Nat} {fs : List Value} {v : Value} (he : ws[q0]? = some (q, .inr (4, fs))) (hv : fs[8]? = some v) (hd : decode cc pc = .ok (.getfield 58, 3)) (k : lx_W K nL E a b (pc + 3) lv (v :: st) ws) : lx_W K nL E a b pc lv (.ref q :: st) ws := fun H L ls h hP hD hS => va_get (T := TX4) F.1.1 F.1.2.1 F.1.2.2.2.2 in_X4 F.1.2.2.2.1 F.2.1 hP q0 he rfl 8 (by decide) (F.1.2.2.2.2 _ tb_539) (fun _ h => h) hv hd (k H L ls h hP hD hS)
theorem gf_X4_61 {K : lm_G} {nL : Nat} {E : lx_E} {cc : ByteArray} {ret : Option FieldType} {rm : Room} {a b pc : Nat} {lv : List (Nat × Value)} {st : List Value} {ws : va_W} (F : lx_F K nL E cc RX4 ret rm) (q0 : Nat) {q : Nat} {fs : List Value} {v : Value} (he : ws[q0]? = some (q, .inr (4, fs))) (hv : fs[9]? = some v) (hd : decode cc pc = .ok (.getfield 61, 3)) (k : lx_W K nL E a b (pc + 3) lv (v :: st) ws) : lx_W K nL E a b pc lv (.ref q :: st) ws := fun H L ls h hP hD hS => va_get (T := TX4) F.1.1 F.1.2.1 F.1.2.2.2.2 in_X4 F.1.2.2.2.1 F.2.1 hP q0 he rfl 9 (by decide) (F.1.2.2.2.2 _ tb_540) (fun _ h => h) hv hd (k H L ls h hP hD hS)
theorem gf_X4_7 {K : lm_G} {nL : Nat} {E : lx_E} {cc : ByteArray} {ret : Option FieldType} {rm : Room} {a b pc : Nat} {lv : List (Nat × Value)} {st : List Value} {ws : va_W} (F : lx_F K nL E cc RX4 ret rm) (q0 : Nat) {q : Nat} {fs : List Value} {v : Value} (he : ws[q0]? = some (q, .inr (4, fs))) (hv : fs[1]? = some v) (hd : decode cc pc = .ok (.getfield 7, 3)) (k : lx_W K nL E a b (pc + 3) lv (v :: st) ws) : lx_W K nL E a b pc lv (.ref q :: st) ws := fun H L ls h hP hD hS => va_get (T := TX4) F.1.1 F.1.2.1 F.1.2.2.2.2 in_X4 F.1.2.2.2.1 F.2.1 hP q0 he rfl 1 (by decide) (F.1.2.2.2.2 _ tb_532) (fun _ h => h) hv hd (k H L ls h hP hD hS)
theorem gf_X4_73 {K : lm_G} {nL : Nat} {E : lx_E} {cc : ByteArray} {ret : Option FieldType} {rm : Room} {a b pc : Nat} {lv : List (Nat × Value)} {st : List Value} {ws : va_W} (F : lx_F K nL E cc RX4 ret rm) (q0 : Nat) {q : Nat} {fs : List Value} {v : Value} (he : ws[q0]? = some (q, .inr (4, fs))) (hv : fs[4]? = some v) (hd : decode cc pc = .ok (.getfield 73, 3)) (k : lx_W K nL E a b (pc + 3) lv (v :: st) ws) : lx_W K nL E a b pc lv (.ref q :: st) ws := fun H L ls h hP hD hS => va_get (T := TX4) F.1.1 F.1.2.1 F.1.2.2.2.2 in_X4 F.1.2.2.2.1 F.2.1 hP q0 he rfl 4 (by decide) (F.1.2.2.2.2 _ tb_535) (fun _ h => h) hv hd (k H L ls h hP hD hS)
theorem gf_X4_79 {K : lm_G} {nL : Nat} {E : lx_E} {cc : ByteArray} {ret : Option FieldType} {rm : Room} {a b pc : Nat} {lv : List (Nat × Value)} {st : List Value} {ws : va_W} (F : lx_F K nL E cc RX4 ret rm) (q0 : Nat) {q : Nat} {fs : List Value} {v : Value} (he : ws[q0]? = some (q, .inr (4, fs))) (hv : fs[11]? = some v) (hd : decode cc pc = .ok (.getfield 79, 3)) (k : lx_W K nL E a b (pc + 3) lv (v :: st) ws) : lx_W K nL E a b pc lv (.ref q :: st) ws := fun H L ls h hP hD hS => va_get (T := TX4) F.1.1 F.1.2.1 F.1.2.2.2.2 in_X4 F.1.2.2.2.1 F.2.1 hP q0 he rfl 11 (by decide) (F.1.2.2.2.2 _ tb_542) (fun _ h => h) hv hd (k H L ls h hP hD hS)
theorem gf_X4_82 {K : lm_G} {nL : Nat} {E : lx_E} {cc : ByteArray} {ret : Option FieldType} {rm : Room} {a b pc : Nat} {lv : List (Nat × Value)} {st : List Value} {ws : va_W} (F : lx_F K nL E cc RX4 ret rm) (q0 : Nat) {q : Nat} {fs : List Value} {v : Value} (he : ws[q0]? = some (q, .inr (4, fs))) (hv : fs[16]? = some v) (hd : decode cc pc = .ok (.getfield 82, 3)) (k : lx_W K nL E a b (pc + 3) lv (v :: st) ws) : lx_W K nL E a b pc lv (.ref q :: st) ws := fun H L ls h hP hD hS => va_get (T := TX4) F.1.1 F.1.2.1 F.1.2.2.2.2 in_X4 F.1.2.2.2.1 F.2.1 hP q0 he rfl 16 (by decide) (F.1.2.2.2.2 _ tb_547) (fun _ h => h) hv hd (k H L ls h hP hD hS)
theorem gf_X4_93 {K : lm_G} {nL : Nat} {E : lx_E} {cc : ByteArray} {ret : Option FieldType} {rm : Room} {a b pc : Nat} {lv : List (Nat × Value)} {st : List Value} {ws : va_W} (F : lx_F K nL E cc RX4 ret rm) (q0 : Nat) {q : Nat} {fs : List Value} {v : Value} (he : ws[q0]? = some (q, .inr (4, fs))) (hv : fs[7]? = some v) (hd : decode cc pc = .ok (.getfield 93, 3)) (k : lx_W K nL E a b (pc + 3) lv (v :: st) ws) : lx_W K nL E a b pc lv (.ref q :: st) ws := fun H L ls h hP hD hS => va_get (T := TX4) F.1.1 F.1.2.1 F.1.2.2.2.2 in_X4 F.1.2.2.2.1 F.2.1 hP q0 he rfl 7 (by decide) (F.1.2.2.2.2 _ tb_538) (fun _ h => h) hv hd (k H L ls h hP hD hS)
theorem to_X0_3 : Cond.methodLink RX0 3 objectInit ∈ lm_T := tb_28
theorem to_X1_3 : Cond.methodLink RX1 3 objectInit ∈ lm_T := tb_71
theorem to_X2_3 : Cond.methodLink RX2 3 objectInit ∈ lm_T := tb_52
theorem pf_X0_15 {K : lm_G} {nL : Nat} {E : lx_E} {cc : ByteArray} {ret : Option FieldType} {rm : Room} {a b pc : Nat} {lv : List (Nat × Value)} {st : List Value} {ws : va_W} (F : lx_F K nL E cc RX0 ret rm) (hnm : (xt E).name = "<init>") (q0 : Nat) (ws' : va_W) {q : Nat} {x : Nat} {fs : List Value} {v0 : Value} (he : ws[q0]? = some (q, .inr (0, fs))) (hv : fs[1]? = some v0) (hd : decode cc pc = .ok (.putfield 15, 3)) (hw : ws.set q0 (q, .inr (0, fs.set 1 (.ref x))) = ws') (k : lx_W K nL E a b (pc + 3) lv st ws') : lx_W K nL E a b pc lv (.ref x :: .ref q :: st) ws := fun H L ls h hP hD hS => va_putF (T := TX0) (v := .ref x) F.1.1 F.1.2.1 F.1.2.2.2.2 in_X0 tyX0 tyX0_ok nmX0 F.1.2.2.2.1 F.2.1 hP hD hS q0 he rfl 1 (by decide) (F.1.2.2.2.2 _ tb_30) (fun _ h => h) rfl hnm rfl (tyX0_ok 1 (by decide)) rfl rfl (List.getElem?_eq_some_iff.mp hv).1 hd (fun H1 L1 hP1 hD1 hS1 => by
    subst hw
    exact k H1 L1 ls h hP1 hD1 hS1)
theorem pf_X0_18 {K : lm_G} {nL : Nat} {E : lx_E} {cc : ByteArray} {ret : Option FieldType} {rm : Room} {a b pc : Nat} {lv : List (Nat × Value)} {st : List Value} {ws : va_W} (F : lx_F K nL E cc RX0 ret rm) (hnm : (xt E).name = "<init>") (q0 : Nat) (ws' : va_W) {q : Nat} {x : Nat} {fs : List Value} {v0 : Value} (he : ws[q0]? = some (q, .inr (0, fs))) (hv : fs[2]? = some v0) (hd : decode cc pc = .ok (.putfield 18, 3)) (hw : ws.set q0 (q, .inr (0, fs.set 2 (.ref x))) = ws') (k : lx_W K nL E a b (pc + 3) lv st ws') : lx_W K nL E a b pc lv (.ref x :: .ref q :: st) ws := fun H L ls h hP hD hS => va_putF (T := TX0) (v := .ref x) F.1.1 F.1.2.1 F.1.2.2.2.2 in_X0 tyX0 tyX0_ok nmX0 F.1.2.2.2.1 F.2.1 hP hD hS q0 he rfl 2 (by decide) (F.1.2.2.2.2 _ tb_31) (fun _ h => h) rfl hnm rfl (tyX0_ok 2 (by decide)) rfl rfl (List.getElem?_eq_some_iff.mp hv).1 hd (fun H1 L1 hP1 hD1 hS1 => by
    subst hw
    exact k H1 L1 ls h hP1 hD1 hS1)
theorem pf_X0_21 {K : lm_G} {nL : Nat} {E : lx_E} {cc : ByteArray} {ret : Option FieldType} {rm : Room} {a b pc : Nat} {lv : List (Nat × Value)} {st : List Value} {ws : va_W} (F : lx_F K nL E cc RX0 ret rm) (hnm : (xt E).name = "<init>") (q0 : Nat) (ws' : va_W) {q : Nat} {x : Nat} {fs : List Value} {v0 : Value} (he : ws[q0]? = some (q, .inr (0, fs))) (hv : fs[3]? = some v0) (hd : decode cc pc = .ok (.putfield 21, 3)) (hw : ws.set q0 (q, .inr (0, fs.set 3 (.ref x))) = ws') (k : lx_W K nL E a b (pc + 3) lv st ws') : lx_W K nL E a b pc lv (.ref x :: .ref q :: st) ws := fun H L ls h hP hD hS => va_putF (T := TX0) (v := .ref x) F.1.1 F.1.2.1 F.1.2.2.2.2 in_X0 tyX0 tyX0_ok nmX0 F.1.2.2.2.1 F.2.1 hP hD hS q0 he rfl 3 (by decide) (F.1.2.2.2.2 _ tb_32) (fun _ h => h) rfl hnm rfl (tyX0_ok 3 (by decide)) rfl rfl (List.getElem?_eq_some_iff.mp hv).1 hd (fun H1 L1 hP1 hD1 hS1 => by
    subst hw
    exact k H1 L1 ls h hP1 hD1 hS1)
theorem pf_X0_24 {K : lm_G} {nL : Nat} {E : lx_E} {cc : ByteArray} {ret : Option FieldType} {rm : Room} {a b pc : Nat} {lv : List (Nat × Value)} {st : List Value} {ws : va_W} (F : lx_F K nL E cc RX0 ret rm) (q0 : Nat) (ws' : va_W) {q : Nat} {x : Int32} {fs : List Value} {v0 : Value} (he : ws[q0]? = some (q, .inr (0, fs))) (hv : fs[4]? = some v0) (hd : decode cc pc = .ok (.putfield 24, 3)) (hw : ws.set q0 (q, .inr (0, fs.set 4 (.int x))) = ws') (k : lx_W K nL E a b (pc + 3) lv st ws') : lx_W K nL E a b pc lv (.int x :: .ref q :: st) ws := fun H L ls h hP hD hS => va_put (T := TX0) (v := .int x) F.1.1 F.1.2.1 F.1.2.2.2.2 in_X0 tyX0 tyX0_ok nmX0 F.1.2.2.2.1 F.2.1 hP hD hS q0 he rfl 4 (by decide) (F.1.2.2.2.2 _ tb_33) (fun _ h => h) rfl (tyX0_ok 4 (by decide)) rfl rfl (List.getElem?_eq_some_iff.mp hv).1 hd (fun H1 L1 hP1 hD1 hS1 => by
    subst hw
    exact k H1 L1 ls h hP1 hD1 hS1)
theorem pf_X0_9 {K : lm_G} {nL : Nat} {E : lx_E} {cc : ByteArray} {ret : Option FieldType} {rm : Room} {a b pc : Nat} {lv : List (Nat × Value)} {st : List Value} {ws : va_W} (F : lx_F K nL E cc RX0 ret rm) (hnm : (xt E).name = "<init>") (q0 : Nat) (ws' : va_W) {q : Nat} {x : Nat} {fs : List Value} {v0 : Value} (he : ws[q0]? = some (q, .inr (0, fs))) (hv : fs[0]? = some v0) (hd : decode cc pc = .ok (.putfield 9, 3)) (hw : ws.set q0 (q, .inr (0, fs.set 0 (.ref x))) = ws') (k : lx_W K nL E a b (pc + 3) lv st ws') : lx_W K nL E a b pc lv (.ref x :: .ref q :: st) ws := fun H L ls h hP hD hS => va_putF (T := TX0) (v := .ref x) F.1.1 F.1.2.1 F.1.2.2.2.2 in_X0 tyX0 tyX0_ok nmX0 F.1.2.2.2.1 F.2.1 hP hD hS q0 he rfl 0 (by decide) (F.1.2.2.2.2 _ tb_29) (fun _ h => h) rfl hnm rfl (tyX0_ok 0 (by decide)) rfl rfl (List.getElem?_eq_some_iff.mp hv).1 hd (fun H1 L1 hP1 hD1 hS1 => by
    subst hw
    exact k H1 L1 ls h hP1 hD1 hS1)
theorem pf_X1_15 {K : lm_G} {nL : Nat} {E : lx_E} {cc : ByteArray} {ret : Option FieldType} {rm : Room} {a b pc : Nat} {lv : List (Nat × Value)} {st : List Value} {ws : va_W} (F : lx_F K nL E cc RX1 ret rm) (hnm : (xt E).name = "<init>") (q0 : Nat) (ws' : va_W) {q : Nat} {x : Nat} {fs : List Value} {v0 : Value} (he : ws[q0]? = some (q, .inr (1, fs))) (hv : fs[1]? = some v0) (hd : decode cc pc = .ok (.putfield 15, 3)) (hw : ws.set q0 (q, .inr (1, fs.set 1 (.ref x))) = ws') (k : lx_W K nL E a b (pc + 3) lv st ws') : lx_W K nL E a b pc lv (.ref x :: .ref q :: st) ws := fun H L ls h hP hD hS => va_putF (T := TX1) (v := .ref x) F.1.1 F.1.2.1 F.1.2.2.2.2 in_X1 tyX1 tyX1_ok nmX1 F.1.2.2.2.1 F.2.1 hP hD hS q0 he rfl 1 (by decide) (F.1.2.2.2.2 _ tb_73) (fun _ h => h) rfl hnm rfl (tyX1_ok 1 (by decide)) rfl rfl (List.getElem?_eq_some_iff.mp hv).1 hd (fun H1 L1 hP1 hD1 hS1 => by
    subst hw
    exact k H1 L1 ls h hP1 hD1 hS1)
theorem pf_X1_19 {K : lm_G} {nL : Nat} {E : lx_E} {cc : ByteArray} {ret : Option FieldType} {rm : Room} {a b pc : Nat} {lv : List (Nat × Value)} {st : List Value} {ws : va_W} (F : lx_F K nL E cc RX1 ret rm) (q0 : Nat) (ws' : va_W) {q : Nat} {x : Int32} {fs : List Value} {v0 : Value} (he : ws[q0]? = some (q, .inr (1, fs))) (hv : fs[2]? = some v0) (hd : decode cc pc = .ok (.putfield 19, 3)) (hw : ws.set q0 (q, .inr (1, fs.set 2 (.int x))) = ws') (k : lx_W K nL E a b (pc + 3) lv st ws') : lx_W K nL E a b pc lv (.int x :: .ref q :: st) ws := fun H L ls h hP hD hS => va_put (T := TX1) (v := .int x) F.1.1 F.1.2.1 F.1.2.2.2.2 in_X1 tyX1 tyX1_ok nmX1 F.1.2.2.2.1 F.2.1 hP hD hS q0 he rfl 2 (by decide) (F.1.2.2.2.2 _ tb_74) (fun _ h => h) rfl (tyX1_ok 2 (by decide)) rfl rfl (List.getElem?_eq_some_iff.mp hv).1 hd (fun H1 L1 hP1 hD1 hS1 => by
    subst hw
    exact k H1 L1 ls h hP1 hD1 hS1)
theorem pf_X1_9 {K : lm_G} {nL : Nat} {E : lx_E} {cc : ByteArray} {ret : Option FieldType} {rm : Room} {a b pc : Nat} {lv : List (Nat × Value)} {st : List Value} {ws : va_W} (F : lx_F K nL E cc RX1 ret rm) (hnm : (xt E).name = "<init>") (q0 : Nat) (ws' : va_W) {q : Nat} {x : Nat} {fs : List Value} {v0 : Value} (he : ws[q0]? = some (q, .inr (1, fs))) (hv : fs[0]? = some v0) (hd : decode cc pc = .ok (.putfield 9, 3)) (hw : ws.set q0 (q, .inr (1, fs.set 0 (.ref x))) = ws') (k : lx_W K nL E a b (pc + 3) lv st ws') : lx_W K nL E a b pc lv (.ref x :: .ref q :: st) ws := fun H L ls h hP hD hS => va_putF (T := TX1) (v := .ref x) F.1.1 F.1.2.1 F.1.2.2.2.2 in_X1 tyX1 tyX1_ok nmX1 F.1.2.2.2.1 F.2.1 hP hD hS q0 he rfl 0 (by decide) (F.1.2.2.2.2 _ tb_72) (fun _ h => h) rfl hnm rfl (tyX1_ok 0 (by decide)) rfl rfl (List.getElem?_eq_some_iff.mp hv).1 hd (fun H1 L1 hP1 hD1 hS1 => by
    subst hw
    exact k H1 L1 ls h hP1 hD1 hS1)
theorem pf_X2_15 {K : lm_G} {nL : Nat} {E : lx_E} {cc : ByteArray} {ret : Option FieldType} {rm : Room} {a b pc : Nat} {lv : List (Nat × Value)} {st : List Value} {ws : va_W} (F : lx_F K nL E cc RX2 ret rm) (hnm : (xt E).name = "<init>") (q0 : Nat) (ws' : va_W) {q : Nat} {x : Nat} {fs : List Value} {v0 : Value} (he : ws[q0]? = some (q, .inr (2, fs))) (hv : fs[1]? = some v0) (hd : decode cc pc = .ok (.putfield 15, 3)) (hw : ws.set q0 (q, .inr (2, fs.set 1 (.ref x))) = ws') (k : lx_W K nL E a b (pc + 3) lv st ws') : lx_W K nL E a b pc lv (.ref x :: .ref q :: st) ws := fun H L ls h hP hD hS => va_putF (T := TX2) (v := .ref x) F.1.1 F.1.2.1 F.1.2.2.2.2 in_X2 tyX2 tyX2_ok nmX2 F.1.2.2.2.1 F.2.1 hP hD hS q0 he rfl 1 (by decide) (F.1.2.2.2.2 _ tb_54) (fun _ h => h) rfl hnm rfl (tyX2_ok 1 (by decide)) rfl rfl (List.getElem?_eq_some_iff.mp hv).1 hd (fun H1 L1 hP1 hD1 hS1 => by
    subst hw
    exact k H1 L1 ls h hP1 hD1 hS1)
theorem pf_X2_18 {K : lm_G} {nL : Nat} {E : lx_E} {cc : ByteArray} {ret : Option FieldType} {rm : Room} {a b pc : Nat} {lv : List (Nat × Value)} {st : List Value} {ws : va_W} (F : lx_F K nL E cc RX2 ret rm) (hnm : (xt E).name = "<init>") (q0 : Nat) (ws' : va_W) {q : Nat} {x : Nat} {fs : List Value} {v0 : Value} (he : ws[q0]? = some (q, .inr (2, fs))) (hv : fs[2]? = some v0) (hd : decode cc pc = .ok (.putfield 18, 3)) (hw : ws.set q0 (q, .inr (2, fs.set 2 (.ref x))) = ws') (k : lx_W K nL E a b (pc + 3) lv st ws') : lx_W K nL E a b pc lv (.ref x :: .ref q :: st) ws := fun H L ls h hP hD hS => va_putF (T := TX2) (v := .ref x) F.1.1 F.1.2.1 F.1.2.2.2.2 in_X2 tyX2 tyX2_ok nmX2 F.1.2.2.2.1 F.2.1 hP hD hS q0 he rfl 2 (by decide) (F.1.2.2.2.2 _ tb_55) (fun _ h => h) rfl hnm rfl (tyX2_ok 2 (by decide)) rfl rfl (List.getElem?_eq_some_iff.mp hv).1 hd (fun H1 L1 hP1 hD1 hS1 => by
    subst hw
    exact k H1 L1 ls h hP1 hD1 hS1)
theorem pf_X2_21 {K : lm_G} {nL : Nat} {E : lx_E} {cc : ByteArray} {ret : Option FieldType} {rm : Room} {a b pc : Nat} {lv : List (Nat × Value)} {st : List Value} {ws : va_W} (F : lx_F K nL E cc RX2 ret rm) (q0 : Nat) (ws' : va_W) {q : Nat} {x : Int32} {fs : List Value} {v0 : Value} (he : ws[q0]? = some (q, .inr (2, fs))) (hv : fs[3]? = some v0) (hd : decode cc pc = .ok (.putfield 21, 3)) (hw : ws.set q0 (q, .inr (2, fs.set 3 (.int x))) = ws') (k : lx_W K nL E a b (pc + 3) lv st ws') : lx_W K nL E a b pc lv (.int x :: .ref q :: st) ws := fun H L ls h hP hD hS => va_put (T := TX2) (v := .int x) F.1.1 F.1.2.1 F.1.2.2.2.2 in_X2 tyX2 tyX2_ok nmX2 F.1.2.2.2.1 F.2.1 hP hD hS q0 he rfl 3 (by decide) (F.1.2.2.2.2 _ tb_56) (fun _ h => h) rfl (tyX2_ok 3 (by decide)) rfl rfl (List.getElem?_eq_some_iff.mp hv).1 hd (fun H1 L1 hP1 hD1 hS1 => by
    subst hw
    exact k H1 L1 ls h hP1 hD1 hS1)
theorem pf_X2_9 {K : lm_G} {nL : Nat} {E : lx_E} {cc : ByteArray} {ret : Option FieldType} {rm : Room} {a b pc : Nat} {lv : List (Nat × Value)} {st : List Value} {ws : va_W} (F : lx_F K nL E cc RX2 ret rm) (hnm : (xt E).name = "<init>") (q0 : Nat) (ws' : va_W) {q : Nat} {x : Nat} {fs : List Value} {v0 : Value} (he : ws[q0]? = some (q, .inr (2, fs))) (hv : fs[0]? = some v0) (hd : decode cc pc = .ok (.putfield 9, 3)) (hw : ws.set q0 (q, .inr (2, fs.set 0 (.ref x))) = ws') (k : lx_W K nL E a b (pc + 3) lv st ws') : lx_W K nL E a b pc lv (.ref x :: .ref q :: st) ws := fun H L ls h hP hD hS => va_putF (T := TX2) (v := .ref x) F.1.1 F.1.2.1 F.1.2.2.2.2 in_X2 tyX2 tyX2_ok nmX2 F.1.2.2.2.1 F.2.1 hP hD hS q0 he rfl 0 (by decide) (F.1.2.2.2.2 _ tb_53) (fun _ h => h) rfl hnm rfl (tyX2_ok 0 (by decide)) rfl rfl (List.getElem?_eq_some_iff.mp hv).1 hd (fun H1 L1 hP1 hD1 hS1 => by
    subst hw
    exact k H1 L1 ls h hP1 hD1 hS1)
theorem pf_X3_34 {K : lm_G} {nL : Nat} {E : lx_E} {cc : ByteArray} {ret : Option FieldType} {rm : Room} {a b pc : Nat} {lv : List (Nat × Value)} {st : List Value} {ws : va_W} (F : lx_F K nL E cc RX3 ret rm) (q0 : Nat) (ws' : va_W) {q : Nat} {x : Nat} {fs : List Value} {v0 : Value} (he : ws[q0]? = some (q, .inr (3, fs))) (hv : fs[4]? = some v0) (hd : decode cc pc = .ok (.putfield 34, 3)) (hw : ws.set q0 (q, .inr (3, fs.set 4 (.ref x))) = ws') (k : lx_W K nL E a b (pc + 3) lv st ws') : lx_W K nL E a b pc lv (.ref x :: .ref q :: st) ws := fun H L ls h hP hD hS => va_put (T := TX3) (v := .ref x) F.1.1 F.1.2.1 F.1.2.2.2.2 in_X3 tyX3 tyX3_ok nmX3 F.1.2.2.2.1 F.2.1 hP hD hS q0 he rfl 4 (by decide) (F.1.2.2.2.2 _ tb_88) (fun _ h => h) rfl (tyX3_ok 4 (by decide)) rfl rfl (List.getElem?_eq_some_iff.mp hv).1 hd (fun H1 L1 hP1 hD1 hS1 => by
    subst hw
    exact k H1 L1 ls h hP1 hD1 hS1)
theorem pf_X3_38 {K : lm_G} {nL : Nat} {E : lx_E} {cc : ByteArray} {ret : Option FieldType} {rm : Room} {a b pc : Nat} {lv : List (Nat × Value)} {st : List Value} {ws : va_W} (F : lx_F K nL E cc RX3 ret rm) (q0 : Nat) (ws' : va_W) {q : Nat} {x : Nat} {fs : List Value} {v0 : Value} (he : ws[q0]? = some (q, .inr (3, fs))) (hv : fs[5]? = some v0) (hd : decode cc pc = .ok (.putfield 38, 3)) (hw : ws.set q0 (q, .inr (3, fs.set 5 (.ref x))) = ws') (k : lx_W K nL E a b (pc + 3) lv st ws') : lx_W K nL E a b pc lv (.ref x :: .ref q :: st) ws := fun H L ls h hP hD hS => va_put (T := TX3) (v := .ref x) F.1.1 F.1.2.1 F.1.2.2.2.2 in_X3 tyX3 tyX3_ok nmX3 F.1.2.2.2.1 F.2.1 hP hD hS q0 he rfl 5 (by decide) (F.1.2.2.2.2 _ tb_89) (fun _ h => h) rfl (tyX3_ok 5 (by decide)) rfl rfl (List.getElem?_eq_some_iff.mp hv).1 hd (fun H1 L1 hP1 hD1 hS1 => by
    subst hw
    exact k H1 L1 ls h hP1 hD1 hS1)
theorem pf_X3_41 {K : lm_G} {nL : Nat} {E : lx_E} {cc : ByteArray} {ret : Option FieldType} {rm : Room} {a b pc : Nat} {lv : List (Nat × Value)} {st : List Value} {ws : va_W} (F : lx_F K nL E cc RX3 ret rm) (q0 : Nat) (ws' : va_W) {q : Nat} {x : Int32} {fs : List Value} {v0 : Value} (he : ws[q0]? = some (q, .inr (3, fs))) (hv : fs[6]? = some v0) (hd : decode cc pc = .ok (.putfield 41, 3)) (hw : ws.set q0 (q, .inr (3, fs.set 6 (.int x))) = ws') (k : lx_W K nL E a b (pc + 3) lv st ws') : lx_W K nL E a b pc lv (.int x :: .ref q :: st) ws := fun H L ls h hP hD hS => va_put (T := TX3) (v := .int x) F.1.1 F.1.2.1 F.1.2.2.2.2 in_X3 tyX3 tyX3_ok nmX3 F.1.2.2.2.1 F.2.1 hP hD hS q0 he rfl 6 (by decide) (F.1.2.2.2.2 _ tb_90) (fun _ h => h) rfl (tyX3_ok 6 (by decide)) rfl rfl (List.getElem?_eq_some_iff.mp hv).1 hd (fun H1 L1 hP1 hD1 hS1 => by
    subst hw
    exact k H1 L1 ls h hP1 hD1 hS1)
theorem pf_X4_54 {K : lm_G} {nL : Nat} {E : lx_E} {cc : ByteArray} {ret : Option FieldType} {rm : Room} {a b pc : Nat} {lv : List (Nat × Value)} {st : List Value} {ws : va_W} (F : lx_F K nL E cc RX4 ret rm) (q0 : Nat) (ws' : va_W) {q : Nat} {x : Int32} {fs : List Value} {v0 : Value} (he : ws[q0]? = some (q, .inr (4, fs))) (hv : fs[0]? = some v0) (hd : decode cc pc = .ok (.putfield 54, 3)) (hw : ws.set q0 (q, .inr (4, fs.set 0 (.int x))) = ws') (k : lx_W K nL E a b (pc + 3) lv st ws') : lx_W K nL E a b pc lv (.int x :: .ref q :: st) ws := fun H L ls h hP hD hS => va_put (T := TX4) (v := .int x) F.1.1 F.1.2.1 F.1.2.2.2.2 in_X4 tyX4 tyX4_ok nmX4 F.1.2.2.2.1 F.2.1 hP hD hS q0 he rfl 0 (by decide) (F.1.2.2.2.2 _ tb_531) (fun _ h => h) rfl (tyX4_ok 0 (by decide)) rfl rfl (List.getElem?_eq_some_iff.mp hv).1 hd (fun H1 L1 hP1 hD1 hS1 => by
    subst hw
    exact k H1 L1 ls h hP1 hD1 hS1)
theorem pf_X4_58 {K : lm_G} {nL : Nat} {E : lx_E} {cc : ByteArray} {ret : Option FieldType} {rm : Room} {a b pc : Nat} {lv : List (Nat × Value)} {st : List Value} {ws : va_W} (F : lx_F K nL E cc RX4 ret rm) (q0 : Nat) (ws' : va_W) {q : Nat} {x : Int32} {fs : List Value} {v0 : Value} (he : ws[q0]? = some (q, .inr (4, fs))) (hv : fs[8]? = some v0) (hd : decode cc pc = .ok (.putfield 58, 3)) (hw : ws.set q0 (q, .inr (4, fs.set 8 (.int x))) = ws') (k : lx_W K nL E a b (pc + 3) lv st ws') : lx_W K nL E a b pc lv (.int x :: .ref q :: st) ws := fun H L ls h hP hD hS => va_put (T := TX4) (v := .int x) F.1.1 F.1.2.1 F.1.2.2.2.2 in_X4 tyX4 tyX4_ok nmX4 F.1.2.2.2.1 F.2.1 hP hD hS q0 he rfl 8 (by decide) (F.1.2.2.2.2 _ tb_539) (fun _ h => h) rfl (tyX4_ok 8 (by decide)) rfl rfl (List.getElem?_eq_some_iff.mp hv).1 hd (fun H1 L1 hP1 hD1 hS1 => by
    subst hw
    exact k H1 L1 ls h hP1 hD1 hS1)
theorem pf_X4_61 {K : lm_G} {nL : Nat} {E : lx_E} {cc : ByteArray} {ret : Option FieldType} {rm : Room} {a b pc : Nat} {lv : List (Nat × Value)} {st : List Value} {ws : va_W} (F : lx_F K nL E cc RX4 ret rm) (q0 : Nat) (ws' : va_W) {q : Nat} {x : Int64} {fs : List Value} {v0 : Value} (he : ws[q0]? = some (q, .inr (4, fs))) (hv : fs[9]? = some v0) (hd : decode cc pc = .ok (.putfield 61, 3)) (hw : ws.set q0 (q, .inr (4, fs.set 9 (.long x))) = ws') (k : lx_W K nL E a b (pc + 3) lv st ws') : lx_W K nL E a b pc lv (.long x :: .ref q :: st) ws := fun H L ls h hP hD hS => va_put (T := TX4) (v := .long x) F.1.1 F.1.2.1 F.1.2.2.2.2 in_X4 tyX4 tyX4_ok nmX4 F.1.2.2.2.1 F.2.1 hP hD hS q0 he rfl 9 (by decide) (F.1.2.2.2.2 _ tb_540) (fun _ h => h) rfl (tyX4_ok 9 (by decide)) rfl rfl (List.getElem?_eq_some_iff.mp hv).1 hd (fun H1 L1 hP1 hD1 hS1 => by
    subst hw
    exact k H1 L1 ls h hP1 hD1 hS1)
theorem pf_X4_73 {K : lm_G} {nL : Nat} {E : lx_E} {cc : ByteArray} {ret : Option FieldType} {rm : Room} {a b pc : Nat} {lv : List (Nat × Value)} {st : List Value} {ws : va_W} (F : lx_F K nL E cc RX4 ret rm) (q0 : Nat) (ws' : va_W) {q : Nat} {x : Int32} {fs : List Value} {v0 : Value} (he : ws[q0]? = some (q, .inr (4, fs))) (hv : fs[4]? = some v0) (hd : decode cc pc = .ok (.putfield 73, 3)) (hw : ws.set q0 (q, .inr (4, fs.set 4 (.int x))) = ws') (k : lx_W K nL E a b (pc + 3) lv st ws') : lx_W K nL E a b pc lv (.int x :: .ref q :: st) ws := fun H L ls h hP hD hS => va_put (T := TX4) (v := .int x) F.1.1 F.1.2.1 F.1.2.2.2.2 in_X4 tyX4 tyX4_ok nmX4 F.1.2.2.2.1 F.2.1 hP hD hS q0 he rfl 4 (by decide) (F.1.2.2.2.2 _ tb_535) (fun _ h => h) rfl (tyX4_ok 4 (by decide)) rfl rfl (List.getElem?_eq_some_iff.mp hv).1 hd (fun H1 L1 hP1 hD1 hS1 => by
    subst hw
    exact k H1 L1 ls h hP1 hD1 hS1)
theorem pf_X4_79 {K : lm_G} {nL : Nat} {E : lx_E} {cc : ByteArray} {ret : Option FieldType} {rm : Room} {a b pc : Nat} {lv : List (Nat × Value)} {st : List Value} {ws : va_W} (F : lx_F K nL E cc RX4 ret rm) (q0 : Nat) (ws' : va_W) {q : Nat} {x : Int32} {fs : List Value} {v0 : Value} (he : ws[q0]? = some (q, .inr (4, fs))) (hv : fs[11]? = some v0) (hd : decode cc pc = .ok (.putfield 79, 3)) (hw : ws.set q0 (q, .inr (4, fs.set 11 (.int x))) = ws') (k : lx_W K nL E a b (pc + 3) lv st ws') : lx_W K nL E a b pc lv (.int x :: .ref q :: st) ws := fun H L ls h hP hD hS => va_put (T := TX4) (v := .int x) F.1.1 F.1.2.1 F.1.2.2.2.2 in_X4 tyX4 tyX4_ok nmX4 F.1.2.2.2.1 F.2.1 hP hD hS q0 he rfl 11 (by decide) (F.1.2.2.2.2 _ tb_542) (fun _ h => h) rfl (tyX4_ok 11 (by decide)) rfl rfl (List.getElem?_eq_some_iff.mp hv).1 hd (fun H1 L1 hP1 hD1 hS1 => by
    subst hw
    exact k H1 L1 ls h hP1 hD1 hS1)
theorem pf_X4_82 {K : lm_G} {nL : Nat} {E : lx_E} {cc : ByteArray} {ret : Option FieldType} {rm : Room} {a b pc : Nat} {lv : List (Nat × Value)} {st : List Value} {ws : va_W} (F : lx_F K nL E cc RX4 ret rm) (q0 : Nat) (ws' : va_W) {q : Nat} {x : Int32} {fs : List Value} {v0 : Value} (he : ws[q0]? = some (q, .inr (4, fs))) (hv : fs[16]? = some v0) (hd : decode cc pc = .ok (.putfield 82, 3)) (hw : ws.set q0 (q, .inr (4, fs.set 16 (.int x))) = ws') (k : lx_W K nL E a b (pc + 3) lv st ws') : lx_W K nL E a b pc lv (.int x :: .ref q :: st) ws := fun H L ls h hP hD hS => va_put (T := TX4) (v := .int x) F.1.1 F.1.2.1 F.1.2.2.2.2 in_X4 tyX4 tyX4_ok nmX4 F.1.2.2.2.1 F.2.1 hP hD hS q0 he rfl 16 (by decide) (F.1.2.2.2.2 _ tb_547) (fun _ h => h) rfl (tyX4_ok 16 (by decide)) rfl rfl (List.getElem?_eq_some_iff.mp hv).1 hd (fun H1 L1 hP1 hD1 hS1 => by
    subst hw
    exact k H1 L1 ls h hP1 hD1 hS1)
theorem pf_X4_93 {K : lm_G} {nL : Nat} {E : lx_E} {cc : ByteArray} {ret : Option FieldType} {rm : Room} {a b pc : Nat} {lv : List (Nat × Value)} {st : List Value} {ws : va_W} (F : lx_F K nL E cc RX4 ret rm) (q0 : Nat) (ws' : va_W) {q : Nat} {x : Int32} {fs : List Value} {v0 : Value} (he : ws[q0]? = some (q, .inr (4, fs))) (hv : fs[7]? = some v0) (hd : decode cc pc = .ok (.putfield 93, 3)) (hw : ws.set q0 (q, .inr (4, fs.set 7 (.int x))) = ws') (k : lx_W K nL E a b (pc + 3) lv st ws') : lx_W K nL E a b pc lv (.int x :: .ref q :: st) ws := fun H L ls h hP hD hS => va_put (T := TX4) (v := .int x) F.1.1 F.1.2.1 F.1.2.2.2.2 in_X4 tyX4 tyX4_ok nmX4 F.1.2.2.2.1 F.2.1 hP hD hS q0 he rfl 7 (by decide) (F.1.2.2.2.2 _ tb_538) (fun _ h => h) rfl (tyX4_ok 7 (by decide)) rfl rfl (List.getElem?_eq_some_iff.mp hv).1 hd (fun H1 L1 hP1 hD1 hS1 => by
    subst hw
    exact k H1 L1 ls h hP1 hD1 hS1)
theorem cs_X0_28 : lx_wS RX0 28 mJ_fill 2 := ⟨tc_J_fill, tb_11, tb_122, tb_123, ⟨by decide, by decide, by decide +kernel⟩⟩
theorem cs_X2_25 : lx_wS RX2 25 mJ_fill 2 := ⟨tc_J_fill, tb_11, tb_487, tb_123, ⟨by decide, by decide, by decide +kernel⟩⟩
theorem cs_X3_118 : lx_wS RX3 118 mX3_kindOf 1 := ⟨tc_X3_kindOf, tb_1, tb_368, tb_130, ⟨by decide, by decide, by decide +kernel⟩⟩
theorem cs_X3_190 : lx_wS RX3 190 mJ_fill 2 := ⟨tc_J_fill, tb_11, tb_474, tb_123, ⟨by decide, by decide, by decide +kernel⟩⟩
theorem cs_X3_196 : lx_wS RX3 196 mX3_placeOf 1 := ⟨tc_X3_placeOf, tb_1, tb_475, tb_138, ⟨by decide, by decide, by decide +kernel⟩⟩
theorem cs_X0_47 : lx_wSN RX0 47 mX3_kindOf "ListMemory" 1 := ⟨tc_X3_kindOf, tb_1, tb_129, tb_130, ⟨by decide, by decide, by decide +kernel⟩⟩
theorem cs_X0_77 : lx_wSN RX0 77 mX3_content "ListMemory" 2 := ⟨tc_X3_content, tb_1, tb_183, tb_155, ⟨by decide, by decide, by decide +kernel⟩⟩
theorem cs_X1_27 : lx_wSN RX1 27 mX3_placeOf "ListMemory" 1 := ⟨tc_X3_placeOf, tb_1, tb_137, tb_138, ⟨by decide, by decide, by decide +kernel⟩⟩
theorem cs_X1_35 : lx_wSN RX1 35 mX3_kindOf "ListMemory" 1 := ⟨tc_X3_kindOf, tb_1, tb_145, tb_130, ⟨by decide, by decide, by decide +kernel⟩⟩
theorem cs_X1_42 : lx_wSN RX1 42 mX3_content "ListMemory" 2 := ⟨tc_X3_content, tb_1, tb_154, tb_155, ⟨by decide, by decide, by decide +kernel⟩⟩
theorem cs_X2_44 : lx_wSN RX2 44 mX3_kindOf "ListMemory" 1 := ⟨tc_X3_kindOf, tb_1, tb_492, tb_130, ⟨by decide, by decide, by decide +kernel⟩⟩
theorem cv_X0_34 : lx_wV RX0 34 mX0_listPair 2 := ⟨tc_X0_listPair, tb_2, tb_125, ⟨tb_127, ts_1⟩, ⟨by decide, by decide, by decide +kernel⟩⟩
theorem cv_X0_38 : lx_wV RX0 38 mX1_restOf 1 := ⟨tc_X1_restOf, tb_4, tb_146, ⟨tb_147, tb_148⟩, ⟨by decide, by decide, by decide +kernel⟩⟩
theorem cv_X0_44 : lx_wV RX0 44 mX1_contentAt 1 := ⟨tc_X1_contentAt, tb_4, tb_157, ⟨tb_142, tb_143⟩, ⟨by decide, by decide, by decide +kernel⟩⟩
theorem cv_X0_51 : lx_wV RX0 51 mX1_cellOf 1 := ⟨tc_X1_cellOf, tb_4, tb_133, ⟨tb_134, tb_135⟩, ⟨by decide, by decide, by decide +kernel⟩⟩
theorem cv_X0_54 : lx_wV RX0 54 mX0_layCell 3 := ⟨tc_X0_layCell, tb_2, tb_162, ⟨tb_164, ts_2⟩, ⟨by decide, by decide, by decide +kernel⟩⟩
theorem cv_X0_61 : lx_wV RX0 61 mX1_take 2 := ⟨tc_X1_take, tb_4, tb_166, ⟨tb_167, tb_168⟩, ⟨by decide, by decide, by decide +kernel⟩⟩
theorem cv_X0_65 : lx_wV RX0 65 mX1_takeTwo 2 := ⟨tc_X1_takeTwo, tb_4, tb_170, ⟨tb_171, tb_172⟩, ⟨by decide, by decide, by decide +kernel⟩⟩
theorem cv_X0_69 : lx_wV RX0 69 mX0_inNewHalf 2 := ⟨tc_X0_inNewHalf, tb_2, tb_179, ⟨tb_181, ts_3⟩, ⟨by decide, by decide, by decide +kernel⟩⟩
theorem cv_X0_73 : lx_wV RX0 73 mX1_setContent 2 := ⟨tc_X1_setContent, tb_4, tb_184, ⟨tb_185, tb_186⟩, ⟨by decide, by decide, by decide +kernel⟩⟩
theorem cv_X1_23 : lx_wV RX1 23 mX1_take 2 := ⟨tc_X1_take, tb_4, tb_174, ⟨tb_167, tb_168⟩, ⟨by decide, by decide, by decide +kernel⟩⟩
theorem cv_X1_31 : lx_wV RX1 31 mX1_contentAt 1 := ⟨tc_X1_contentAt, tb_4, tb_141, ⟨tb_142, tb_143⟩, ⟨by decide, by decide, by decide +kernel⟩⟩
theorem cv_X1_38 : lx_wV RX1 38 mX1_codeAt 1 := ⟨tc_X1_codeAt, tb_4, tb_150, ⟨tb_151, tb_152⟩, ⟨by decide, by decide, by decide +kernel⟩⟩
theorem cv_X2_31 : lx_wV RX2 31 mX2_fit 3 := ⟨tc_X2_fit, tb_3, tb_488, ⟨tb_490, ts_11⟩, ⟨by decide, by decide, by decide +kernel⟩⟩
theorem cv_X2_35 : lx_wV RX2 35 mX1_contentAt 1 := ⟨tc_X1_contentAt, tb_4, tb_494, ⟨tb_142, tb_143⟩, ⟨by decide, by decide, by decide +kernel⟩⟩
theorem cv_X2_41 : lx_wV RX2 41 mX1_restOf 1 := ⟨tc_X1_restOf, tb_4, tb_495, ⟨tb_147, tb_148⟩, ⟨by decide, by decide, by decide +kernel⟩⟩
theorem cv_X2_48 : lx_wV RX2 48 mX1_cellOf 1 := ⟨tc_X1_cellOf, tb_4, tb_493, ⟨tb_134, tb_135⟩, ⟨by decide, by decide, by decide +kernel⟩⟩
theorem cv_X3_106 : lx_wV RX3 106 mX1_codeAt 1 := ⟨tc_X1_codeAt, tb_4, tb_414, ⟨tb_151, tb_152⟩, ⟨by decide, by decide, by decide +kernel⟩⟩
theorem cv_X3_141 : lx_wV RX3 141 mX1_countMoved 0 := ⟨tc_X1_countMoved, tb_4, tb_192, ⟨tb_193, tb_194⟩, ⟨by decide, by decide, by decide +kernel⟩⟩
theorem cv_X3_175 : lx_wV RX3 175 mX1_clear 0 := ⟨tc_X1_clear, tb_4, tb_114, ⟨tb_115, tb_116⟩, ⟨by decide, by decide, by decide +kernel⟩⟩
theorem cv_X3_178 : lx_wV RX3 178 mX0_listReached 2 := ⟨tc_X0_listReached, tb_2, tb_118, ⟨tb_119, tb_120⟩, ⟨by decide, by decide, by decide +kernel⟩⟩
theorem cv_X3_182 : lx_wV RX3 182 mX0_layListed 3 := ⟨tc_X0_layListed, tb_2, tb_158, ⟨tb_159, tb_160⟩, ⟨by decide, by decide, by decide +kernel⟩⟩
theorem cv_X3_186 : lx_wV RX3 186 mX0_tellNewPlaces 3 := ⟨tc_X0_tellNewPlaces, tb_2, tb_175, ⟨tb_176, tb_177⟩, ⟨by decide, by decide, by decide +kernel⟩⟩
theorem cv_X3_71 : lx_wV RX3 71 mX1_takeTwo 2 := ⟨tc_X1_takeTwo, tb_4, tb_346, ⟨tb_171, tb_172⟩, ⟨by decide, by decide, by decide +kernel⟩⟩
theorem cv_X3_80 : lx_wV RX3 80 mX1_take 2 := ⟨tc_X1_take, tb_4, tb_355, ⟨tb_167, tb_168⟩, ⟨by decide, by decide, by decide +kernel⟩⟩
theorem cv_X3_87 : lx_wV RX3 87 mX1_cellOf 1 := ⟨tc_X1_cellOf, tb_4, tb_385, ⟨tb_134, tb_135⟩, ⟨by decide, by decide, by decide +kernel⟩⟩
theorem cv_X3_91 : lx_wV RX3 91 mX1_contentAt 1 := ⟨tc_X1_contentAt, tb_4, tb_386, ⟨tb_142, tb_143⟩, ⟨by decide, by decide, by decide +kernel⟩⟩
theorem cv_X3_95 : lx_wV RX3 95 mX1_restOf 1 := ⟨tc_X1_restOf, tb_4, tb_394, ⟨tb_147, tb_148⟩, ⟨by decide, by decide, by decide +kernel⟩⟩
theorem cv_X4_65 : lx_wV RX4 65 mX4_cell 1 := ⟨tc_X4_cell, tb_5, tb_641, ⟨tb_643, ts_17⟩, ⟨by decide, by decide, by decide +kernel⟩⟩
theorem cv_X4_69 : lx_wV RX4 69 mX4_look 2 := ⟨tc_X4_look, tb_5, tb_649, ⟨tb_651, ts_19⟩, ⟨by decide, by decide, by decide +kernel⟩⟩
theorem cv_X4_85 : lx_wV RX4 85 mX4_lookRest 1 := ⟨tc_X4_lookRest, tb_5, tb_645, ⟨tb_647, ts_18⟩, ⟨by decide, by decide, by decide +kernel⟩⟩
theorem cv_X4_89 : lx_wV RX4 89 mX4_lay 3 := ⟨tc_X4_lay, tb_5, tb_657, ⟨tb_659, ts_21⟩, ⟨by decide, by decide, by decide +kernel⟩⟩
theorem cv_X4_96 : lx_wV RX4 96 mX4_enlist 2 := ⟨tc_X4_enlist, tb_5, tb_637, ⟨tb_639, ts_16⟩, ⟨by decide, by decide, by decide +kernel⟩⟩
theorem cv_X4_99 : lx_wV RX4 99 mX4_spine 1 := ⟨tc_X4_spine, tb_5, tb_653, ⟨tb_655, ts_20⟩, ⟨by decide, by decide, by decide +kernel⟩⟩
theorem to_i : Cond.instanceMethod objectInit ∈ lm_T := tb_21
theorem to_c : Cond.code objectInit ⟨#[0xb1]⟩ 1 none ∈ lm_T := tc_obj
theorem ta_I : Cond.arrayClass .int ∈ lm_T := tb_46
theorem ta_J : Cond.arrayClass .long ∈ lm_T := tb_45
theorem ta_Z : Cond.arrayClass .boolean ∈ lm_T := tb_595
end
section
/-! What a half's arrays hold, and what its questions answer -/
def lm_hf (f : Nat → Int32) (g : Nat → Int64) (c : Nat → Nat) (w : Nat → lm_V) (u : Nat) : Prop := ∀ p, p < u → f p = nI (c p) ∧ g p = en (w p)
abbrev rk (d : Nat) : Room := { frames := d, cells := 0, slots := 0, locals := 36 * d }
theorem lm_k4 {c : Nat → Nat} {w : Nat → lm_V} {u p : Nat} (hw : lm_wf c w u) (hp : p < u) : (w p).1 < 4 := by
  rcases hw.2.2.2.2.2.1 p hp with h | h
  · have := lm_ok_kind h; omega
  · have := h.1; omega
theorem lm_in_of {c : Nat → Nat} {w : Nat → lm_V} {u p : Nat} (hw : lm_wf c w u) (hp : p < u) : en_in (w p) := by
  rcases hw.2.2.2.2.2.1 p hp with h | h
  · exact en_of hw.1 h
  · obtain ⟨h1, -, q, h2, -, h3, -⟩ := h
    have := hw.1
    exact ⟨by omega, by omega, by omega⟩
theorem lm_cellOf_facts {c : Nat → Nat} {w : Nat → lm_V} {u : Nat} {v : lm_V} (hw : lm_wf c w u) (hv : lm_ok c u v) (hk : v.1 = 2) : ∃ q : Nat, v.2 = (q : Int) ∧ q < u ∧ (w q).1 < 4 ∧ en_in v ∧ en_in (w q) ∧ ((w q).1 = 3 → ∃ r : Nat, (w q).2 = (r : Int) ∧ r < 120 ∧ lm_to w v = r) ∧ ((w q).1 ≠ 3 → lm_to w v = q) := by
  have hiv := en_of hw.1 hv
  rcases hv with h1 | h1 | ⟨-, q, h1, h2, h3⟩
  · omega
  · omega
  · refine ⟨q, h1, h2, lm_k4 hw h2, hiv, lm_in_of hw h2, fun h => ?_, fun h => ?_⟩
    · rcases hw.2.2.2.2.2.1 q h2 with a | a
      · have := lm_ok_kind a; omega
      · obtain ⟨-, -, r, hr, -, h5, -⟩ := a
        have := hw.1
        refine ⟨r, hr, by omega, ?_⟩
        unfold lm_to lm_cell
        rw [h1]
        simp only [Int.toNat_natCast]
        rw [if_pos h, hr]
        simp only [Int.toNat_natCast]
    · unfold lm_to lm_cell
      rw [h1]
      simp only [Int.toNat_natCast]
      rw [if_neg h]
theorem lm_rest_n {c : Nat → Nat} {w : Nat → lm_V} {p : Nat} (h : c p = 0) : lm_rest c w p = (2, ((p + 1 : Nat) : Int)) := if_pos h
theorem lm_rest_2 {c : Nat → Nat} {w : Nat → lm_V} {p : Nat} (h : c p = 2) : lm_rest c w p = w (p + 1) := by
  unfold lm_rest; rw [if_neg (by omega), if_pos h]
theorem lm_rest_0 {c : Nat → Nat} {w : Nat → lm_V} {p : Nat} (h0 : c p ≠ 0) (h2 : c p ≠ 2) : lm_rest c w p = (0, 0) := by
  unfold lm_rest; rw [if_neg h0, if_neg h2]
theorem en_0j : en (0, 0) = jI 0 := by decide +kernel
def lm_cnt (w : Nat → lm_V) : Nat → Nat
  | 0 => 0
  | n + 1 => lm_cnt w n + (if (w n).1 = 3 then 1 else 0)
theorem lm_cnt_le (w : Nat → lm_V) : ∀ n, lm_cnt w n ≤ n := by
  intro n
  induction n with
  | zero => exact Nat.le_refl _
  | succ n ih => unfold lm_cnt; split <;> omega
theorem lm_us1 {p : Int32} {u : Nat} (h : p < 0) : decide (0 ≤ p.toInt ∧ p.toInt < (u : Int)) = false := by
  rw [Int32.lt_iff_toInt_lt, Int32.toInt_zero] at h
  simp; omega
theorem lm_us2 {p : Int32} {u : Nat} (hu : u < 2 ^ 31) (h : nI u ≤ p) : decide (0 ≤ p.toInt ∧ p.toInt < (u : Int)) = false := by
  rw [Int32.le_iff_toInt_le, nI_toInt hu] at h
  simp; omega
theorem lm_us3 {p : Int32} {u : Nat} (hu : u < 2 ^ 31) (h0 : ¬ p < 0) (h : ¬ nI u ≤ p) : decide (0 ≤ p.toInt ∧ p.toInt < (u : Int)) = true := by
  rw [Int32.lt_iff_toInt_lt, Int32.toInt_zero] at h0
  rw [Int32.le_iff_toInt_le, nI_toInt hu] at h
  simp; omega
end
section
/-! What the collector's arrays hold while it lists -/
theorem lm_up_fill {f : Nat → Int32} {x : Int32} {i : Nat} (hf : ∀ j, j < i → f j = x) : ∀ j, j < i + 1 → lm_up f i x j = x := by
  intro j hj
  by_cases e : j = i
  · rw [e, lm_up_eq]
  · rw [lm_up_ne e]; exact hf j (by omega)
def lm_ls (fl fi : Nat → Int32) (L : List Nat) : Prop := (∀ j, j < L.length → fl j = nI (L.getD j 0)) ∧ ∀ p, p < 120 → fi p = nI (if p ∈ L then 1 else 0)
theorem lm_ls_0 {fl fi : Nat → Int32} (h : ∀ j, j < 120 → fi j = nI 0) : lm_ls fl fi [] := ⟨fun j hj => by simp at hj, fun p hp => by rw [h p hp]; simp⟩
theorem lm_enl_no {w : Nat → lm_V} {L : List Nat} {v : lm_V} (h : v.1 ≠ 2) : lm_enl w L v = L := by
  unfold lm_enl; rw [if_neg (fun q => h q.1)]
theorem lm_enl_old {w : Nat → lm_V} {L : List Nat} {v : lm_V} (h : lm_to w v ∈ L) : lm_enl w L v = L := by
  unfold lm_enl; rw [if_neg (fun q => q.2 h)]
theorem lm_enl_new {w : Nat → lm_V} {L : List Nat} {v : lm_V} (h2 : v.1 = 2) (h : lm_to w v ∉ L) : lm_enl w L v = L ++ [lm_to w v] := by
  unfold lm_enl; rw [if_pos ⟨h2, h⟩]
theorem lm_enl_lt {c : Nat → Nat} {w : Nat → lm_V} {u : Nat} {L : List Nat} {v : lm_V} (hw : lm_wf c w u) (hL : lm_gd c w u L) (hv : lm_ok c u v) (h2 : v.1 = 2) (h : lm_to w v ∉ L) : L.length < 120 := by
  have h1 := lm_gd_len (lm_enl_gd hw hL hv)
  rw [lm_enl_new h2 h] at h1
  simp at h1
  have := hw.1
  omega
theorem lm_getD_app {L : List Nat} {x j : Nat} (hj : j < L.length) : (L ++ [x]).getD j 0 = L.getD j 0 := by
  simp [List.getD_eq_getElem?_getD, List.getElem?_append_left hj]
theorem lm_getD_last {L : List Nat} {x : Nat} : (L ++ [x]).getD L.length 0 = x := by
  simp [List.getD_eq_getElem?_getD]
theorem lm_ls_new {fl fi : Nat → Int32} {L : List Nat} {x : Nat} (h : lm_ls fl fi L) (hm : x ∉ L) (hx : x < 120) : lm_ls (lm_up fl L.length (nI x)) (lm_up fi x (nI 1)) (L ++ [x]) := by
  refine ⟨fun j hj => ?_, fun p hp => ?_⟩
  · by_cases e : j = L.length
    · rw [e, lm_up_eq, lm_getD_last]
    · have : j < L.length := by simp at hj; omega
      rw [lm_up_ne e, lm_getD_app this]; exact h.1 j this
  · by_cases e : p = x
    · rw [e, lm_up_eq]; simp
    · rw [lm_up_ne e, h.2 p hp]
      simp [e]
theorem lm_getD_in {L : List Nat} {i : Nat} (hi : i < L.length) : L.getD i 0 ∈ L := by
  rw [List.getD_eq_getElem?_getD, List.getElem?_eq_getElem hi]; simp
theorem lm_bfs_end {c : Nat → Nat} {w : Nat → lm_V} {n i : Nat} {L : List Nat} (h : L.length ≤ i) : lm_bfs c w (n + 1) i L = L := by
  unfold lm_bfs; rw [if_neg (by omega)]
theorem lm_bfs_step {c : Nat → Nat} {w : Nat → lm_V} {n i : Nat} {L : List Nat} (h : i < L.length) : lm_bfs c w (n + 1) i L = lm_bfs c w n (i + 1) (lm_enl w (lm_enl w L (w (L.getD i 0))) (lm_rest c w (L.getD i 0))) := by
  rw [lm_bfs, if_pos h]
theorem lm_enl_take {w : Nat → lm_V} {i : Nat} {L : List Nat} {a b : lm_V} (hi : i < L.length) : (lm_enl w (lm_enl w L a) b).take (i + 1) = L.take i ++ [L.getD i 0] := by
  obtain ⟨M, hM⟩ := lm_enl_pre (w := w) (L := L) (v := a)
  obtain ⟨M2, hM2⟩ := lm_enl_pre (w := w) (L := lm_enl w L a) (v := b)
  rw [hM2, hM, List.append_assoc, List.take_append_of_le_length (by omega), List.take_succ_eq_append_getElem hi]
  rw [List.getD_eq_getElem?_getD, List.getElem?_eq_getElem hi]
  rfl
theorem lm_isRb_app {c : Nat → Nat} {w : Nat → lm_V} {M : List Nat} {y p : Nat} : lm_isRb c w (M ++ [y]) p = (lm_isRb c w M p || decide ((lm_rest c w y).1 = 2 ∧ lm_to w (lm_rest c w y) = p)) := by
  unfold lm_isRb
  simp [List.any_append]
theorem lm_isR_no {c : Nat → Nat} {w : Nat → lm_V} {M : List Nat} {y : Nat} {fr : Nat → Int32} (hfr : ∀ p, p < 120 → fr p = nI (if lm_isRb c w M p = true then 1 else 0)) (h2 : (lm_rest c w y).1 ≠ 2) : ∀ p, p < 120 → fr p = nI (if lm_isRb c w (M ++ [y]) p = true then 1 else 0) := by
  intro p hp
  rw [hfr p hp, lm_isRb_app]
  simp [h2]
theorem lm_isR_yes {c : Nat → Nat} {w : Nat → lm_V} {M : List Nat} {y : Nat} {fr : Nat → Int32} (hfr : ∀ p, p < 120 → fr p = nI (if lm_isRb c w M p = true then 1 else 0)) (h2 : (lm_rest c w y).1 = 2) : ∀ p, p < 120 → lm_up fr (lm_to w (lm_rest c w y)) (nI 1) p = nI (if lm_isRb c w (M ++ [y]) p = true then 1 else 0) := by
  intro p hp
  by_cases e : p = lm_to w (lm_rest c w y)
  · rw [e, lm_up_eq, lm_isRb_app]; simp [h2]
  · rw [lm_up_ne e, hfr p hp, lm_isRb_app]
    have : ¬ lm_to w (lm_rest c w y) = p := fun q => e q.symm
    simp [this]
/-! .. and while it lays: lay by newPlaces, O by the other half's words -/
def lm_os (fn f2 : Nat → Int32) (g2 : Nat → Int64) (s : lm_S) : Prop := (∀ p, p < 120 → fn p = oI (s.1 p)) ∧ ∀ j, j < s.2.length → f2 j = nI (s.2.getD j (0, 0, 0)).1 ∧ g2 j = en (s.2.getD j (0, 0, 0)).2
def lm_sb (s : lm_S) : Prop := ∀ q n, s.1 q = some n → n < 2 ^ 31
theorem lm_mark_up {fn : Nat → Int32} {lay : Nat → Option Nat} {p n : Nat} (h : ∀ q, q < 120 → fn q = oI (lay q)) : ∀ q, q < 120 → lm_up fn p (nI n) q = oI (lm_mark lay p n q) := by
  intro q hq
  by_cases e : q = p
  · rw [e, lm_up_eq]; simp [lm_mark, oI]
  · rw [lm_up_ne e, h q hq]; simp [lm_mark, e]
theorem lm_os_1 {fn f2 : Nat → Int32} {g2 : Nat → Int64} {s : lm_S} {p k : Nat} {v : lm_V} (h : lm_os fn f2 g2 s) : lm_os (lm_up fn p (nI s.2.length)) (lm_up f2 s.2.length (nI k)) (lm_up g2 s.2.length (en v)) (lm_mark s.1 p s.2.length, s.2 ++ [(k, v)]) := by
  refine ⟨lm_mark_up h.1, fun j hj => ?_⟩
  show _ = nI ((s.2 ++ [(k, v)]).getD j (0, 0, 0)).1 ∧ _ = en ((s.2 ++ [(k, v)]).getD j (0, 0, 0)).2
  by_cases e : j = s.2.length
  · rw [e, lm_up_eq, lm_up_eq, lm_getD_r (Nat.le_refl _)]; simp
  · have : j < s.2.length := by simp at hj; omega
    rw [lm_up_ne e, lm_up_ne e, lm_getD_l this]; exact h.2 j this
theorem lm_os_2 {fn f2 : Nat → Int32} {g2 : Nat → Int64} {s : lm_S} {p k k2 : Nat} {v v2 : lm_V} (h : lm_os fn f2 g2 s) : lm_os (lm_up fn p (nI s.2.length)) (lm_up (lm_up f2 s.2.length (nI k)) (s.2.length + 1) (nI k2)) (lm_up (lm_up g2 s.2.length (en v)) (s.2.length + 1) (en v2)) (lm_mark s.1 p s.2.length, s.2 ++ [(k, v), (k2, v2)]) := by
  refine ⟨lm_mark_up h.1, fun j hj => ?_⟩
  show _ = nI ((s.2 ++ [(k, v), (k2, v2)]).getD j (0, 0, 0)).1 ∧ _ = en ((s.2 ++ [(k, v), (k2, v2)]).getD j (0, 0, 0)).2
  have hj : j < s.2.length + 2 := by simpa using hj
  rcases (show j < s.2.length ∨ j = s.2.length ∨ j = s.2.length + 1 by omega) with e | e | e
  · rw [lm_up_ne (by omega), lm_up_ne (by omega), lm_up_ne (by omega), lm_up_ne (by omega), lm_getD_l e]; exact h.2 j e
  · have a1 : s.2.length ≠ s.2.length + 1 := by omega
    rw [e, lm_up_ne a1, lm_up_ne a1, lm_up_eq, lm_up_eq, lm_getD_r (Nat.le_refl _)]; simp
  · rw [e, lm_up_eq, lm_up_eq, lm_getD_r (by omega)]; simp
theorem lm_lay_e {c : Nat → Nat} {w : Nat → lm_V} {s : lm_S} {p : Nat} (h : (lm_rest c w p).1 = 0) : lm_lay c w s p = ((lm_mark s.1 p s.2.length, s.2 ++ [(1, w p)]), none) := by
  unfold lm_lay; rw [if_pos h]
theorem lm_lay_n {c : Nat → Nat} {w : Nat → lm_V} {s : lm_S} {p : Nat} (h : (lm_rest c w p).1 = 2) (h2 : lm_mark s.1 p s.2.length (lm_to w (lm_rest c w p)) = none) : lm_lay c w s p = ((lm_mark s.1 p s.2.length, s.2 ++ [(0, w p)]), some (lm_to w (lm_rest c w p))) := by
  unfold lm_lay; rw [if_neg (by omega), if_pos ⟨h, h2⟩]
theorem lm_lay_p {c : Nat → Nat} {w : Nat → lm_V} {s : lm_S} {p : Nat} (h : (lm_rest c w p).1 ≠ 0) (h2 : ¬ ((lm_rest c w p).1 = 2 ∧ lm_mark s.1 p s.2.length (lm_to w (lm_rest c w p)) = none)) : lm_lay c w s p = ((lm_mark s.1 p s.2.length, s.2 ++ [(2, w p), (3, lm_rest c w p)]), none) := by
  unfold lm_lay; rw [if_neg h, if_neg h2]
theorem lm_lay_len {c : Nat → Nat} {w : Nat → lm_V} {s : lm_S} {p : Nat} : s.2.length + 1 ≤ (lm_lay c w s p).1.2.length := by
  unfold lm_lay
  split
  · simp
  · split <;> simp
theorem lm_mark_b {lay : Nat → Option Nat} {p n : Nat} (h : ∀ q k, lay q = some k → k < 2 ^ 31) (hn : n < 2 ^ 31) : ∀ q k, lm_mark lay p n q = some k → k < 2 ^ 31 := by
  intro q k hq
  unfold lm_mark at hq
  by_cases e : q = p
  · rw [if_pos e] at hq; cases hq; exact hn
  · rw [if_neg e] at hq; exact h q k hq
theorem lm_lay_b {c : Nat → Nat} {w : Nat → lm_V} {s : lm_S} {p : Nat} (h : lm_sb s) (hn : s.2.length < 2 ^ 31) : lm_sb (lm_lay c w s p).1 := by
  have : (lm_lay c w s p).1.1 = lm_mark s.1 p s.2.length := by
    unfold lm_lay
    split
    · rfl
    · split <;> rfl
  intro q k hq
  rw [this] at hq
  exact lm_mark_b h hn q k hq
theorem lm_lay_q {c : Nat → Nat} {w : Nat → lm_V} {u : Nat} {s : lm_S} {p q : Nat} (hw : lm_wf c w u) (hp : lm_cl c w u p) (h : (lm_lay c w s p).2 = some q) : lm_cl c w u q := by
  unfold lm_lay at h
  by_cases e : (lm_rest c w p).1 = 0
  · rw [if_pos e] at h; cases h
  · rw [if_neg e] at h
    by_cases e2 : (lm_rest c w p).1 = 2 ∧ lm_mark s.1 p s.2.length (lm_to w (lm_rest c w p)) = none
    · rw [if_pos e2] at h
      have := Option.some.inj h
      rw [← this]; exact lm_to_cl hw (lm_rest_ok hw hp) e2.1
    · rw [if_neg e2] at h; cases h
/-- a spine that may have ended already -/
def lm_spO (c : Nat → Nat) (w : Nat → lm_V) (n : Nat) (s : lm_S) (o : Option Nat) : lm_S := match o with
  | none => s
  | some p => lm_spine c w n s p
theorem lm_spO_s {c : Nat → Nat} {w : Nat → lm_V} {n : Nat} {s : lm_S} {p : Nat} : lm_spO c w (n + 1) s (some p) = lm_spO c w n (lm_lay c w s p).1 (lm_lay c w s p).2 := by
  unfold lm_spO
  show lm_spine c w (n + 1) s p = _
  rw [lm_spine]
  generalize (lm_lay c w s p).2 = o
  cases o <;> rfl
theorem lm_spO_len {c : Nat → Nat} {w : Nat → lm_V} : ∀ (n : Nat) (s : lm_S) (o : Option Nat), s.2.length ≤ (lm_spO c w n s o).2.length := by
  intro n
  induction n with
  | zero =>
    intro s o
    cases o <;> exact Nat.le_refl _
  | succ n ih =>
    intro s o
    cases o with
    | none => exact Nat.le_refl _
    | some p =>
      rw [lm_spO_s]
      have := ih (lm_lay c w s p).1 (lm_lay c w s p).2
      have := lm_lay_len (c := c) (w := w) (s := s) (p := p)
      omega
theorem lm_spO_b {c : Nat → Nat} {w : Nat → lm_V} : ∀ (n : Nat) (s : lm_S) (o : Option Nat), lm_sb s → (lm_spO c w n s o).2.length ≤ 120 → lm_sb (lm_spO c w n s o) := by
  intro n
  induction n with
  | zero =>
    intro s o h _
    cases o <;> exact h
  | succ n ih =>
    intro s o h hl
    cases o with
    | none => exact h
    | some p =>
      rw [lm_spO_s] at hl ⊢
      have h1 := lm_spO_len (c := c) (w := w) n (lm_lay c w s p).1 (lm_lay c w s p).2
      have h2 := lm_lay_len (c := c) (w := w) (s := s) (p := p)
      exact ih _ _ (lm_lay_b h (by omega)) hl
theorem lm_try_y {c : Nat → Nat} {w : Nat → lm_V} {L : List Nat} {hd : Bool} {s : lm_S} {p : Nat} (h1 : s.1 p = none) (h2 : ¬ (hd = true ∧ lm_isRb c w L p = true)) : lm_try c w L hd s p = lm_spO c w 120 s (some p) := by
  unfold lm_try; rw [if_pos ⟨h1, h2⟩]; rfl
theorem lm_try_n {c : Nat → Nat} {w : Nat → lm_V} {L : List Nat} {hd : Bool} {s : lm_S} {p : Nat} (h : ¬ (s.1 p = none ∧ ¬ (hd = true ∧ lm_isRb c w L p = true))) : lm_try c w L hd s p = s := by
  unfold lm_try; rw [if_neg h]
theorem lm_try_len {c : Nat → Nat} {w : Nat → lm_V} {L : List Nat} {hd : Bool} {s : lm_S} {p : Nat} : s.2.length ≤ (lm_try c w L hd s p).2.length := by
  by_cases h : s.1 p = none ∧ ¬ (hd = true ∧ lm_isRb c w L p = true)
  · rw [lm_try_y h.1 h.2]; exact lm_spO_len 120 s (some p)
  · rw [lm_try_n h]; exact Nat.le_refl _
theorem lm_try_b {c : Nat → Nat} {w : Nat → lm_V} {L : List Nat} {hd : Bool} {s : lm_S} {p : Nat} (h : lm_sb s) (hl : (lm_try c w L hd s p).2.length ≤ 120) : lm_sb (lm_try c w L hd s p) := by
  by_cases e : s.1 p = none ∧ ¬ (hd = true ∧ lm_isRb c w L p = true)
  · rw [lm_try_y e.1 e.2] at hl ⊢; exact lm_spO_b 120 s (some p) h hl
  · rw [lm_try_n e]; exact h
theorem lm_phase_len {c : Nat → Nat} {w : Nat → lm_V} {L : List Nat} {hd : Bool} {s : lm_S} : ∀ (k n : Nat), n ≤ k → (lm_phase c w L hd s n).2.length ≤ (lm_phase c w L hd s k).2.length := by
  intro k
  induction k with
  | zero => intro n hn; rw [show n = 0 by omega]; exact Nat.le_refl _
  | succ k ih =>
    intro n hn
    by_cases e : n = k + 1
    · rw [e]; exact Nat.le_refl _
    · have h1 := ih n (by omega)
      have h2 := lm_try_len (c := c) (w := w) (L := L) (hd := hd) (s := lm_phase c w L hd s k) (p := L.getD k 0)
      show _ ≤ (lm_try c w L hd (lm_phase c w L hd s k) (L.getD k 0)).2.length
      omega
theorem lm_phase_b {c : Nat → Nat} {w : Nat → lm_V} {L : List Nat} {hd : Bool} {s : lm_S} (h : lm_sb s) : ∀ n, (lm_phase c w L hd s n).2.length ≤ 120 → lm_sb (lm_phase c w L hd s n) := by
  intro n
  induction n with
  | zero => intro _; exact h
  | succ n ih =>
    intro hl
    have h1 := lm_phase_len (c := c) (w := w) (L := L) (hd := hd) (s := s) (n + 1) n (by omega)
    exact lm_try_b (ih (by omega)) hl
theorem lm_tr_no {w : Nat → lm_V} {lay : Nat → Option Nat} {v : lm_V} (h : v.1 ≠ 2) : lm_tr w lay v = v := by
  unfold lm_tr; rw [if_neg h]
theorem lm_up_lt {α : Type} {f : Nat → α} {F : Nat → α} {i : Nat} (h : ∀ j, j < i → f j = F j) : ∀ j, j < i + 1 → lm_up f i (F i) j = F j := by
  intro j hj
  by_cases e : j = i
  · rw [e, lm_up_eq]
  · rw [lm_up_ne e]; exact h j (by omega)
end
section
/-! What the matching's arrays hold -/
def lm_ms (fo ba wa : Nat → Int32) (m : lm_M) : Prop := (∀ p, p < 120 → fo p = oI (m.1 p)) ∧ (∀ p, p < 120 → ba p = oI (m.2.1 p)) ∧ ∀ j, j < m.2.2.length → wa j = nI (m.2.2.getD j 0)
theorem lm_ms_0 {fo ba wa : Nat → Int32} (h1 : ∀ j, j < 120 → fo j = -1) (h2 : ∀ j, j < 120 → ba j = -1) : lm_ms fo ba wa (fun _ => none, fun _ => none, []) := ⟨h1, h2, fun j hj => by simp at hj⟩
theorem lm_ms_new {fo ba wa : Nat → Int32} {m : lm_M} {x y : Nat} (h : lm_ms fo ba wa m) : lm_ms (lm_up fo x (nI y)) (lm_up ba y (nI x)) (lm_up wa m.2.2.length (nI x)) (lm_mark m.1 x y, lm_mark m.2.1 y x, m.2.2 ++ [x]) := by
  refine ⟨lm_mark_up h.1, lm_mark_up h.2.1, fun j hj => ?_⟩
  show _ = nI ((m.2.2 ++ [x]).getD j 0)
  by_cases e : j = m.2.2.length
  · rw [e, lm_up_eq, lm_getD_last]
  · have : j < m.2.2.length := by simp at hj; omega
    rw [lm_up_ne e, lm_getD_app this]; exact h.2.2 j this
theorem lm_fit_np {w : Nat → lm_V} {m : lm_M} {a b : lm_V} (h : ¬ (a.1 = 2 ∧ b.1 = 2)) : lm_fit w m a b = (m, decide (a = b)) := by
  unfold lm_fit; rw [if_neg h]
theorem lm_fit_old {w : Nat → lm_V} {m : lm_M} {a b : lm_V} (h1 : a.1 = 2) (h2 : b.1 = 2) (h : ¬ (m.1 (lm_to w a) = none ∧ m.2.1 (lm_to w b) = none)) : lm_fit w m a b = (m, decide (m.1 (lm_to w a) = some (lm_to w b))) := by
  unfold lm_fit; rw [if_pos ⟨h1, h2⟩, if_neg h]
theorem lm_fit_new {w : Nat → lm_V} {m : lm_M} {a b : lm_V} (h1 : a.1 = 2) (h2 : b.1 = 2) (h3 : m.1 (lm_to w a) = none) (h4 : m.2.1 (lm_to w b) = none) : lm_fit w m a b = ((lm_mark m.1 (lm_to w a) (lm_to w b), lm_mark m.2.1 (lm_to w b) (lm_to w a), m.2.2 ++ [lm_to w a]), true) := by
  unfold lm_fit; rw [if_pos ⟨h1, h2⟩, if_pos ⟨h3, h4⟩]
theorem lm_mok_0 {c : Nat → Nat} {w : Nat → lm_V} {u : Nat} : lm_mok c w u (fun _ => none, fun _ => none, []) := by
  refine ⟨⟨List.nodup_nil, fun p hp => (by cases hp)⟩, fun p => by simp, fun p q => by simp, fun p q h => (by cases h)⟩
theorem lm_mok_b {c : Nat → Nat} {w : Nat → lm_V} {u : Nat} {m : lm_M} (hm : lm_mok c w u m) (hw : lm_wf c w u) (p : Nat) : ∀ k, m.1 p = some k → k < 2 ^ 31 := by
  intro k hk
  have h1 := (hm.2.2.2 p k hk).1
  have h2 := hw.1
  omega
theorem lm_mok_b2 {c : Nat → Nat} {w : Nat → lm_V} {u : Nat} {m : lm_M} (hm : lm_mok c w u m) (hw : lm_wf c w u) (p : Nat) : ∀ k, m.2.1 p = some k → k < 2 ^ 31 := by
  intro k hk
  have h0 := (hm.2.2.1 k p).mpr hk
  have h3 : k ∈ m.2.2 := (hm.2.1 k).mpr (by rw [h0]; simp)
  have h1 := (hm.1.2 k h3).1
  have h2 := hw.1
  omega
theorem lm_mok_in {c : Nat → Nat} {w : Nat → lm_V} {u : Nat} {m : lm_M} (hm : lm_mok c w u m) {p : Nat} (hp : p ∈ m.2.2) : ∃ q, m.1 p = some q := by
  have h := (hm.2.1 p).mp hp
  cases e : m.1 p with
  | none => exact absurd e h
  | some q => exact ⟨q, rfl⟩
theorem lm_alk_end {c : Nat → Nat} {w : Nat → lm_V} {n i : Nat} {m : lm_M} (h : m.2.2.length ≤ i) : lm_alk c w (n + 1) i m = true := by
  unfold lm_alk; rw [if_neg (by omega)]
theorem lm_alk_step {c : Nat → Nat} {w : Nat → lm_V} {n i p q : Nat} {m : lm_M} (h : i < m.2.2.length) (hp : p = m.2.2.getD i 0) (hq : m.1 p = some q) : lm_alk c w (n + 1) i m = if (lm_pair c w m p q).2 = true then lm_alk c w n (i + 1) (lm_pair c w m p q).1 else false := by
  rw [lm_alk, if_pos h, ← hp, hq]; rfl
theorem lm_pair_f1 {c : Nat → Nat} {w : Nat → lm_V} {n i p q : Nat} {m : lm_M} (h : (lm_fit w m (w p) (w q)).2 = false) : (if (lm_pair c w m p q).2 = true then lm_alk c w n (i + 1) (lm_pair c w m p q).1 else false) = false := by
  have : lm_pair c w m p q = lm_fit w m (w p) (w q) := by unfold lm_pair; rw [if_neg (by rw [h]; simp)]
  rw [this, h]; simp
theorem lm_pair_f2 {c : Nat → Nat} {w : Nat → lm_V} {n i p q : Nat} {m : lm_M} (h : (lm_fit w m (w p) (w q)).2 = true) (h2 : (lm_fit w (lm_fit w m (w p) (w q)).1 (lm_rest c w p) (lm_rest c w q)).2 = false) : (if (lm_pair c w m p q).2 = true then lm_alk c w n (i + 1) (lm_pair c w m p q).1 else false) = false := by
  have : lm_pair c w m p q = lm_fit w (lm_fit w m (w p) (w q)).1 (lm_rest c w p) (lm_rest c w q) := by unfold lm_pair; rw [if_pos h]
  rw [this, h2]; simp
theorem lm_pair_t {c : Nat → Nat} {w : Nat → lm_V} {n i p q : Nat} {m : lm_M} (h : (lm_fit w m (w p) (w q)).2 = true) (h2 : (lm_fit w (lm_fit w m (w p) (w q)).1 (lm_rest c w p) (lm_rest c w q)).2 = true) : (if (lm_pair c w m p q).2 = true then lm_alk c w n (i + 1) (lm_pair c w m p q).1 else false) = lm_alk c w n (i + 1) (lm_fit w (lm_fit w m (w p) (w q)).1 (lm_rest c w p) (lm_rest c w q)).1 := by
  have : lm_pair c w m p q = lm_fit w (lm_fit w m (w p) (w q)).1 (lm_rest c w p) (lm_rest c w q) := by unfold lm_pair; rw [if_pos h]
  rw [this, if_pos h2]
theorem lm_alike_t {c : Nat → Nat} {w : Nat → lm_V} {a b : lm_V} (h : (lm_fit w (fun _ => none, fun _ => none, []) a b).2 = true) : lm_alk c w 120 0 (lm_fit w (fun _ => none, fun _ => none, []) a b).1 = lm_alike c w a b := by
  unfold lm_alike; rw [if_pos h]
theorem lm_alike_f {c : Nat → Nat} {w : Nat → lm_V} {a b : lm_V} (h : (lm_fit w (fun _ => none, fun _ => none, []) a b).2 = false) : lm_alike c w a b = false := by
  unfold lm_alike; rw [if_neg (by rw [h]; simp)]
theorem lm_bI_f {x : Bool} (h : bI x = 0) : x = false := by
  cases x with
  | false => rfl
  | true => exact absurd h (by decide +kernel)
theorem lm_bI_t {x : Bool} (h : ¬ bI x = 0) : x = true := by
  cases x with
  | true => rfl
  | false => exact absurd (by decide +kernel) h
end
section
/-! The questions' answers, unfolded -/
theorem lm_same_np {w : Nat → lm_V} {a b : lm_V} (h : ¬ (a.1 = 2 ∧ b.1 = 2)) : lm_same w a b = decide (a = b) := by
  unfold lm_same; rw [if_neg h]
theorem lm_same_p {w : Nat → lm_V} {a b : lm_V} (h1 : a.1 = 2) (h2 : b.1 = 2) : lm_same w a b = decide (lm_to w a = lm_to w b) := by
  unfold lm_same; rw [if_pos ⟨h1, h2⟩]
theorem lm_len_2 {c : Nat → Nat} {w : Nat → lm_V} {f n : Nat} {v : lm_V} (h : v.1 = 2) : lm_len c w (f + 1) n v = lm_len c w f (n + 1) (lm_rest c w (lm_to w v)) := by
  rw [lm_len, if_pos h]
theorem lm_len_0 {c : Nat → Nat} {w : Nat → lm_V} {f n : Nat} {v : lm_V} (h : v.1 = 0) : lm_len c w (f + 1) n v = (n : Int) := by
  rw [lm_len, if_neg (by omega), if_pos h]
theorem lm_len_1 {c : Nat → Nat} {w : Nat → lm_V} {f n : Nat} {v : lm_V} (h : v.1 ≠ 2) (h0 : v.1 ≠ 0) : lm_len c w (f + 1) n v = -1 := by
  rw [lm_len, if_neg h, if_neg h0]
theorem lm_wds_no {c : Nat → Nat} {w : Nat → lm_V} {f n : Nat} {S : List Nat} {v : lm_V} (h : v.1 ≠ 2) : lm_wds c w (f + 1) S v n = n := by
  rw [lm_wds, if_neg (fun z => h z.1)]
theorem lm_wds_old {c : Nat → Nat} {w : Nat → lm_V} {f n : Nat} {S : List Nat} {v : lm_V} (_ : v.1 = 2) (hs : lm_to w v ∈ S) : lm_wds c w (f + 1) S v n = n := by
  rw [lm_wds, if_neg (fun z => z.2 hs)]
theorem lm_wds_new {c : Nat → Nat} {w : Nat → lm_V} {f n : Nat} {S : List Nat} {v : lm_V} (h : v.1 = 2) (hs : lm_to w v ∉ S) : lm_wds c w (f + 1) S v n = lm_wds c w f (lm_to w v :: S) (lm_rest c w (lm_to w v)) (n + (if c (lm_to w v) = 2 then 2 else 1) + (if lm_to w v = v.2.toNat then 0 else 1)) := by
  rw [lm_wds, if_pos ⟨h, hs⟩]
theorem lm_up_mem {fc : Nat → Int32} {S : List Nat} {x : Nat} (h : ∀ p, p < 120 → fc p = nI (if p ∈ S then 1 else 0)) : ∀ p, p < 120 → lm_up fc x (nI 1) p = nI (if p ∈ x :: S then 1 else 0) := by
  intro p hp
  by_cases e : p = x
  · rw [e, lm_up_eq]; simp
  · rw [lm_up_ne e, h p hp]; simp [e]
def lm_ab (w : Nat → lm_V) (u : Nat) (z : Int32) (what : Int32) : Int32 := if what.toInt = 0 then nI u else if what.toInt = 1 then nI (lm_cnt w u) else if what.toInt = 2 then z else -1
theorem lm_ab_0 {w : Nat → lm_V} {u : Nat} {z what : Int32} (h : what.toInt = 0) : lm_ab w u z what = nI u := by
  unfold lm_ab; rw [if_pos h]
theorem lm_ab_1 {w : Nat → lm_V} {u : Nat} {z what : Int32} (h : what.toInt = 1) : lm_ab w u z what = nI (lm_cnt w u) := by
  unfold lm_ab; rw [if_neg (by omega), if_pos h]
theorem lm_ab_2 {w : Nat → lm_V} {u : Nat} {z what : Int32} (h : what.toInt = 2) : lm_ab w u z what = z := by
  unfold lm_ab; rw [if_neg (by omega), if_neg (by omega), if_pos h]
theorem lm_ab_o {w : Nat → lm_V} {u : Nat} {z what : Int32} (h : what.toInt < 0 ∨ 2 < what.toInt) : lm_ab w u z what = -1 := by
  unfold lm_ab; rw [if_neg (by omega), if_neg (by omega), if_neg (by omega)]
end
section
/-! What the reference's arrays hold -/
def lm_mf (cd kd : Nat → Int32) (ct : Nat → Int64) (c : Nat → Nat) (w : Nat → lm_V) (u : Nat) : Prop := ∀ p, p < u → cd p = nI (c p) ∧ kd p = nI (w p).1 ∧ ct p = jI (w p).2
def lm_rf (a b : Bool) : Nat := if a = true then 1 else if b = true then 2 else 0
def lm_none (r : Int32) : Bool := decide (r.toInt < 0 ∨ 9 < r.toInt)
theorem lm_none_1 {r : Int32} (h : r < 0) : lm_none r = true := by
  rw [Int32.lt_iff_toInt_lt, Int32.toInt_zero] at h
  unfold lm_none; simp; omega
theorem lm_none_2 {r : Int32} (h : ¬ r ≤ nI 9) : lm_none r = true := by
  rw [Int32.le_iff_toInt_le, nI_toInt (by omega)] at h
  unfold lm_none; simp; omega
theorem lm_none_3 {r : Int32} (h : ¬ r < 0) (h2 : r ≤ nI 9) : lm_none r = false := by
  rw [Int32.lt_iff_toInt_lt, Int32.toInt_zero] at h
  rw [Int32.le_iff_toInt_le, nI_toInt (by omega)] at h2
  unfold lm_none; simp; omega
theorem lm_cell_n {w : Nat → lm_V} {q : Nat} (h : (w q).1 ≠ 3) : lm_cell w q = q := by
  unfold lm_cell; rw [if_neg h]
theorem lm_cell_m {c : Nat → Nat} {w : Nat → lm_V} {u q : Nat} (hw : lm_wf c w u) (hq : q < u) (h : (w q).1 = 3) : ∃ r : Nat, (w q).2 = (r : Int) ∧ lm_cell w q = r := by
  rcases hw.2.2.2.2.2.1 q hq with a | a
  · have := lm_ok_kind a; omega
  · obtain ⟨-, -, r, hr, -⟩ := a
    refine ⟨r, hr, ?_⟩
    unfold lm_cell; rw [if_pos h, hr]; simp only [Int.toNat_natCast]
theorem lm_ok_p {c : Nat → Nat} {u : Nat} {v : lm_V} (h : lm_ok c u v) (h2 : v.1 = 2) : ∃ q : Nat, v.2 = (q : Int) ∧ q < u ∧ c q ≠ 3 := by
  rcases h with a | a | ⟨-, q, a⟩
  · omega
  · omega
  · exact ⟨q, a⟩
theorem lm_to_q {w : Nat → lm_V} {v : lm_V} {q : Nat} (h : v.2 = (q : Int)) : lm_to w v = lm_cell w q := by
  unfold lm_to; rw [h]; simp only [Int.toNat_natCast]
theorem lm_same_k {w : Nat → lm_V} {a b : lm_V} (h : a.1 ≠ b.1) : lm_same w a b = false := by
  unfold lm_same
  by_cases e : a.1 = 2 ∧ b.1 = 2
  · omega
  · rw [if_neg e]
    exact decide_eq_false (fun z => h (by rw [z]))
theorem lm_same_z {c : Nat → Nat} {w : Nat → lm_V} {u : Nat} {a b : lm_V} (ha : lm_ok c u a) (hb : lm_ok c u b) (h : a.1 = b.1) (h0 : a.1 = 0) : lm_same w a b = true := by
  rw [lm_same_np (by omega)]
  refine decide_eq_true ?_
  rcases ha with a1 | a1 | a1
  · rcases hb with b1 | b1 | b1
    · exact Prod.ext h (by rw [a1.2, b1.2])
    · omega
    · have := b1.1; omega
  · omega
  · have := a1.1; omega
theorem lm_same_e1 {c : Nat → Nat} {w : Nat → lm_V} {u : Nat} {a b : lm_V} (hw : lm_wf c w u) (ha : lm_ok c u a) (hb : lm_ok c u b) (h1 : a.1 = 1) (h2 : b.1 = 1) (he : jI a.2 ≠ jI b.2) : lm_same w a b = false := by
  rw [lm_same_np (by omega)]
  exact decide_eq_false (fun z => he (by rw [z]))
theorem lm_same_e2 {c : Nat → Nat} {w : Nat → lm_V} {u : Nat} {a b : lm_V} (hw : lm_wf c w u) (ha : lm_ok c u a) (hb : lm_ok c u b) (h1 : a.1 = 1) (h2 : b.1 = 1) (he : jI a.2 = jI b.2) : lm_same w a b = true := by
  rw [lm_same_np (by omega)]
  have e1 := en_of hw.1 ha
  have e2 := en_of hw.1 hb
  obtain ⟨-, x1, x2⟩ := e1
  obtain ⟨-, y1, y2⟩ := e2
  have := (jI_eq (by omega) (by omega)).mp he
  exact decide_eq_true (Prod.ext (by rw [h1, h2]) this)
theorem lm_notin {L : List Nat} {x : Nat} (h : ∀ j, j < L.length → L.getD j 0 ≠ x) : x ∉ L := by
  intro hx
  obtain ⟨i, hi, e⟩ := lm_mem_getD hx
  exact h i hi e
theorem lm_l1_new {fl : Nat → Int32} {L : List Nat} {x : Nat} (h : ∀ j, j < L.length → fl j = nI (L.getD j 0)) : ∀ j, j < (L ++ [x]).length → lm_up fl L.length (nI x) j = nI ((L ++ [x]).getD j 0) := by
  intro j hj
  by_cases e : j = L.length
  · rw [e, lm_up_eq, lm_getD_last]
  · have : j < L.length := by simp at hj; omega
    rw [lm_up_ne e, lm_getD_app this]; exact h j this
theorem lm_ne_s {L : List Nat} {x i : Nat} (h : ∀ j, j < i → L.getD j 0 ≠ x) (h2 : L.getD i 0 ≠ x) : ∀ j, j < i + 1 → L.getD j 0 ≠ x := by
  intro j hj
  by_cases e : j = i
  · rw [e]; exact h2
  · exact h j (by omega)
end
section
/-! The reference's laying -/
def lm_om (fla nc nk : Nat → Int32) (nt : Nat → Int64) (s : lm_S) : Prop := (∀ p, p < 120 → fla p = oI (s.1 p)) ∧ ∀ j, j < s.2.length → nc j = nI (s.2.getD j (0, 0, 0)).1 ∧ nk j = nI (s.2.getD j (0, 0, 0)).2.1 ∧ nt j = jI (s.2.getD j (0, 0, 0)).2.2
theorem lm_om_1 {fla nc nk : Nat → Int32} {nt : Nat → Int64} {s : lm_S} {p k : Nat} {v : lm_V} (h : lm_om fla nc nk nt s) : lm_om (lm_up fla p (nI s.2.length)) (lm_up nc s.2.length (nI k)) (lm_up nk s.2.length (nI v.1)) (lm_up nt s.2.length (jI v.2)) (lm_mark s.1 p s.2.length, s.2 ++ [(k, v)]) := by
  refine ⟨lm_mark_up h.1, fun j hj => ?_⟩
  show _ = nI ((s.2 ++ [(k, v)]).getD j (0, 0, 0)).1 ∧ _ = nI ((s.2 ++ [(k, v)]).getD j (0, 0, 0)).2.1 ∧ _ = jI ((s.2 ++ [(k, v)]).getD j (0, 0, 0)).2.2
  by_cases e : j = s.2.length
  · rw [e, lm_up_eq, lm_up_eq, lm_up_eq, lm_getD_r (Nat.le_refl _)]; simp
  · have : j < s.2.length := by simp at hj; omega
    rw [lm_up_ne e, lm_up_ne e, lm_up_ne e, lm_getD_l this]; exact h.2 j this
theorem lm_om_2 {fla nc nk : Nat → Int32} {nt : Nat → Int64} {s : lm_S} {p k k2 : Nat} {v v2 : lm_V} (h : lm_om fla nc nk nt s) : lm_om (lm_up fla p (nI s.2.length)) (lm_up (lm_up nc s.2.length (nI k)) (s.2.length + 1) (nI k2)) (lm_up (lm_up nk s.2.length (nI v.1)) (s.2.length + 1) (nI v2.1)) (lm_up (lm_up nt s.2.length (jI v.2)) (s.2.length + 1) (jI v2.2)) (lm_mark s.1 p s.2.length, s.2 ++ [(k, v), (k2, v2)]) := by
  refine ⟨lm_mark_up h.1, fun j hj => ?_⟩
  show _ = nI ((s.2 ++ [(k, v), (k2, v2)]).getD j (0, 0, 0)).1 ∧ _ = nI ((s.2 ++ [(k, v), (k2, v2)]).getD j (0, 0, 0)).2.1 ∧ _ = jI ((s.2 ++ [(k, v), (k2, v2)]).getD j (0, 0, 0)).2.2
  have hj : j < s.2.length + 2 := by simpa using hj
  rcases (show j < s.2.length ∨ j = s.2.length ∨ j = s.2.length + 1 by omega) with e | e | e
  · rw [lm_up_ne (by omega), lm_up_ne (by omega), lm_up_ne (by omega), lm_up_ne (by omega), lm_up_ne (by omega), lm_up_ne (by omega), lm_getD_l e]; exact h.2 j e
  · have a1 : s.2.length ≠ s.2.length + 1 := by omega
    rw [e, lm_up_ne a1, lm_up_ne a1, lm_up_ne a1, lm_up_eq, lm_up_eq, lm_up_eq, lm_getD_r (Nat.le_refl _)]; simp
  · rw [e, lm_up_eq, lm_up_eq, lm_up_eq, lm_getD_r (by omega)]; simp
def lm_trs (c : Nat → Nat) (w : Nat → lm_V) (s : lm_S) (p : Nat) : lm_S := if s.1 p = none then lm_spine c w 120 s p else s
theorem lm_trs_y {c : Nat → Nat} {w : Nat → lm_V} {s : lm_S} {p : Nat} (h : s.1 p = none) : lm_trs c w s p = lm_spO c w 120 s (some p) := by
  unfold lm_trs; rw [if_pos h]; rfl
theorem lm_trs_n {c : Nat → Nat} {w : Nat → lm_V} {s : lm_S} {p : Nat} (h : ¬ s.1 p = none) : lm_trs c w s p = s := by
  unfold lm_trs; rw [if_neg h]
theorem lm_try_trs {c : Nat → Nat} {w : Nat → lm_V} {L : List Nat} {hd : Bool} {s : lm_S} {p : Nat} (h : ¬ (hd = true ∧ lm_isRb c w L p = true)) : lm_try c w L hd s p = lm_trs c w s p := by
  unfold lm_try lm_trs
  by_cases e : s.1 p = none
  · rw [if_pos ⟨e, h⟩, if_pos e]
  · rw [if_neg (fun z => e z.1), if_neg e]
theorem lm_I_lt {c : Nat → Nat} {w : Nat → lm_V} {u : Nat} {L : List Nat} {s : lm_S} {D : List Nat} {k p : Nat} (hw : lm_wf c w u) (hL : lm_gd c w u L) (h : lm_I c w u L s D k (some p)) (hp : s.1 p = none) (hpL : p ∈ L) : D.length < 120 := by
  have hpD : p ∉ D := fun q => (h.2.1 p).mp q hp
  have n1 : (p :: D).Nodup := List.nodup_cons.mpr ⟨hpD, h.1⟩
  have := lm_gd_len (c := c) (w := w) (u := u) (L := p :: D) ⟨n1, fun q hq => by
    rcases List.mem_cons.mp hq with a | a
    · subst a; exact hL.2 _ hpL
    · exact hL.2 q (h.2.2.1 q a)⟩
  have h1 := hw.1
  simp only [List.length_cons] at this
  omega
theorem lm_sp_next {c : Nat → Nat} {w : Nat → lm_V} {u : Nat} {L : List Nat} {s : lm_S} {D : List Nat} {k p n : Nat} (hw : lm_wf c w u) (hL : lm_gd c w u L) (hcl : ∀ p ∈ L, lm_cs c w L p) (h : lm_I c w u L s D k (some p)) (hp : s.1 p = none) (hpL : p ∈ L) (hD : 120 ≤ D.length + (n + 1)) : ∀ x, (lm_lay c w s p).2 = some x → (lm_lay c w s p).1.1 x = none ∧ x ∈ L ∧ ∃ D k, lm_I c w u L (lm_lay c w s p).1 D k (some x) ∧ 120 ≤ D.length + n := by
  intro x hx
  obtain ⟨h1, h2⟩ := lm_lay_I hw hL hcl h hp hpL
  obtain ⟨h3, h4⟩ := h2 x hx
  rw [hx] at h1
  exact ⟨h3, h4, D ++ [p], k, h1, by simp; omega⟩
theorem lm_I_open {c : Nat → Nat} {w : Nat → lm_V} {u : Nat} {L : List Nat} {s : lm_S} {D : List Nat} {k p : Nat} (h : lm_I c w u L s D k none) : lm_I c w u L s D (k + 1) (some p) := by
  obtain ⟨i1, i2, i3, i4, i5, i6, i7, i8⟩ := h
  refine ⟨i1, i2, i3, fun q hq hk => Or.inl ((i4 q hq hk).resolve_right (by simp)), ?_, i6, ?_, i8⟩
  · simp only [if_true] at i5
    simp
    omega
  · obtain ⟨a1, a2, a3, a4⟩ := i7
    exact ⟨a1, fun n hn h0 => Or.inl ((a2 n hn h0).resolve_right (fun z => by simp at z)), a3, a4⟩
theorem oI_neg {o : Option Nat} (h : ∀ n, o = some n → n < 2 ^ 31) (h2 : ¬ 0 ≤ oI o) : o = none := by
  cases o with
  | none => rfl
  | some n => exact absurd (nI_pos' (h n rfl)) h2
theorem lm_ln1 (O : lm_O) (x : Nat × lm_V) : O.length + 1 = (O ++ [x]).length := by simp
theorem lm_ln2 (O : lm_O) (x y : Nat × lm_V) : O.length + 1 + 1 = (O ++ [x, y]).length := by simp
end
section
/-! The reference's collection -/
theorem lm_tr_k (w : Nat → lm_V) (lay : Nat → Option Nat) (v : lm_V) : (lm_tr w lay v).1 = v.1 := by
  unfold lm_tr
  by_cases h : v.1 = 2
  · rw [if_pos h]; exact h.symm
  · rw [if_neg h]
theorem lm_gr_k (c : Nat → Nat) (w rt : Nat → lm_V) (r : Nat) : (lm_gr c w rt r).1 = (rt r).1 := lm_tr_k _ _ _
theorem lm_gw_k (c : Nat → Nat) (w rt : Nat → lm_V) (j : Nat) : (lm_gw c w rt j).1 = ((lm_laid c w (lm_list c w rt)).2.getD j (0, 0, 0)).2.1 := lm_tr_k _ _ _
theorem lm_gr_no {c : Nat → Nat} {w rt : Nat → lm_V} {r : Nat} (h : (rt r).1 ≠ 2) : lm_gr c w rt r = rt r := lm_tr_no h
theorem lm_gw_no {c : Nat → Nat} {w rt : Nat → lm_V} {j : Nat} (h : ((lm_laid c w (lm_list c w rt)).2.getD j (0, 0, 0)).2.1 ≠ 2) : lm_gw c w rt j = ((lm_laid c w (lm_list c w rt)).2.getD j (0, 0, 0)).2 := lm_tr_no h
theorem lm_tr_facts {c : Nat → Nat} {w : Nat → lm_V} {u : Nat} {lay : Nat → Option Nat} {v : lm_V} (hw : lm_wf c w u) (hv : lm_ok c u v) (h2 : v.1 = 2) (h : ∃ n, lay (lm_to w v) = some n ∧ n < 2 ^ 31) : ∃ q n : Nat, v.2 = (q : Int) ∧ q < u ∧ c q ≠ 3 ∧ lm_cell w q < 120 ∧ lay (lm_cell w q) = some n ∧ n < 2 ^ 31 ∧ (lm_tr w lay v).2 = (n : Int) := by
  obtain ⟨q, a, b, d⟩ := lm_ok_p hv h2
  obtain ⟨n, h3, h4⟩ := h
  have ht := lm_to_q (w := w) a
  have hc := (lm_cell_cl hw b d).1
  have hu := hw.1
  refine ⟨q, n, a, b, d, by omega, by rw [← ht]; exact h3, h4, ?_⟩
  unfold lm_tr; rw [if_pos h2, h3]; rfl
theorem lm_mf_s {cd kd : Nat → Int32} {ct : Nat → Int64} {c : Nat → Nat} {w : Nat → lm_V} {i : Nat} (h : lm_mf cd kd ct c w i) : lm_mf (lm_up cd i (nI (c i))) (lm_up kd i (nI (w i).1)) (lm_up ct i (jI (w i).2)) c w (i + 1) := by
  intro p hp
  by_cases e : p = i
  · rw [e, lm_up_eq, lm_up_eq, lm_up_eq]; exact ⟨rfl, rfl, rfl⟩
  · rw [lm_up_ne e, lm_up_ne e, lm_up_ne e]; exact h p (by omega)
theorem lm_up_ext {α : Type} {f F : Nat → α} {i : Nat} {x : α} (h : ∀ j, j < i → f j = F j) (hx : x = F i) : ∀ j, j < i + 1 → lm_up f i x j = F j := by
  intro j hj
  by_cases e : j = i
  · rw [e, lm_up_eq]; exact hx
  · rw [lm_up_ne e]; exact h j (by omega)
theorem lm_I_0 {c : Nat → Nat} {w : Nat → lm_V} {u : Nat} {L : List Nat} : ∃ D k, lm_I c w u L (fun _ => none, []) D k none :=
  ⟨[], 0, List.nodup_nil, fun p => by simp, fun p hp => (by cases hp), fun p hp => (by cases hp), by simp, fun p n h => (by cases h), ⟨fun n hn => by simp at hn, fun n hn => by simp at hn, fun n hn => by simp at hn, fun n hn => by simp at hn⟩, fun x hx => (by cases hx)⟩
theorem lm_phase_I {c : Nat → Nat} {w : Nat → lm_V} {u : Nat} {L : List Nat} {hd : Bool} {s : lm_S} (hw : lm_wf c w u) (hL : lm_gd c w u L) (hcl : ∀ p ∈ L, lm_cs c w L p) (h : ∃ D k, lm_I c w u L s D k none) : ∀ n, n ≤ L.length → ∃ D k, lm_I c w u L (lm_phase c w L hd s n) D k none := by
  intro n
  induction n with
  | zero => intro _; exact h
  | succ n ih =>
    intro hn
    obtain ⟨D, k, hI⟩ := ih (by omega)
    show ∃ D k, lm_I c w u L (lm_try c w L hd (lm_phase c w L hd s n) (L.getD n 0)) D k none
    unfold lm_try
    by_cases e : (lm_phase c w L hd s n).1 (L.getD n 0) = none ∧ ¬ (hd = true ∧ lm_isRb c w L (L.getD n 0) = true)
    · rw [if_pos e]
      obtain ⟨D', a, -, -⟩ := lm_spine_I hw hL hcl 120 _ D (k + 1) (L.getD n 0) (lm_I_open hI) e.1 (lm_getD_in (by omega)) (by omega)
      exact ⟨D', _, a⟩
    · rw [if_neg e]; exact ⟨D, k, hI⟩
theorem lm_take_s {L : List Nat} {i : Nat} (hi : i < L.length) : L.take (i + 1) = L.take i ++ [L.getD i 0] := by
  rw [List.take_succ_eq_append_getElem hi, List.getD_eq_getElem?_getD, List.getElem?_eq_getElem hi]
  rfl
end
section
/-! append: the words that are taken -/
def lm_isL (c : Nat → Nat) (w : Nat → lm_V) : Nat → lm_V → Prop
  | 0, _ => True
  | n + 1, v => v.1 = 2 ∧ lm_isL c w n (lm_rest c w (lm_to w v))
def lm_apM (c : Nat → Nat) (w : Nat → lm_V) : Nat → lm_V → lm_V → lm_O
  | 0, _, _ => []
  | n + 1, v, ed => if n = 0 then (if ed.1 = 0 then [(1, w (lm_to w v))] else [(2, w (lm_to w v)), (3, ed)]) else (0, w (lm_to w v)) :: lm_apM c w n (lm_rest c w (lm_to w v)) ed
theorem lm_apM_1n {c : Nat → Nat} {w : Nat → lm_V} {v ed : lm_V} (h : ed.1 = 0) : lm_apM c w (0 + 1) v ed = [(1, w (lm_to w v))] := by
  rw [lm_apM, if_pos rfl, if_pos h]
theorem lm_apM_1p {c : Nat → Nat} {w : Nat → lm_V} {v ed : lm_V} (h : ed.1 ≠ 0) : lm_apM c w (0 + 1) v ed = [(2, w (lm_to w v)), (3, ed)] := by
  rw [lm_apM, if_pos rfl, if_neg h]
theorem lm_apM_2 {c : Nat → Nat} {w : Nat → lm_V} {n : Nat} {v ed : lm_V} : lm_apM c w (n + 1 + 1) v ed = (0, w (lm_to w v)) :: lm_apM c w (n + 1) (lm_rest c w (lm_to w v)) ed := by
  rw [lm_apM, if_neg (by omega)]
theorem lm_apM_pos (c : Nat → Nat) (w : Nat → lm_V) (n : Nat) (v ed : lm_V) : 0 < (lm_apM c w (n + 1) v ed).length := by
  rw [lm_apM]
  split
  · split <;> simp
  · simp
theorem lm_hf_low {f : Nat → Int32} {g : Nat → Int64} {c : Nat → Nat} {w : Nat → lm_V} {u n : Nat} {M : lm_O} (h : lm_hf f g (lm_ac c u M) (lm_aw w u M) (u + n)) : lm_hf f g c w u := by
  intro p hp
  have := h p (by omega)
  unfold lm_ac lm_aw at this
  rw [if_pos hp, if_pos hp] at this
  exact this
theorem lm_hf_0 {f : Nat → Int32} {g : Nat → Int64} {c : Nat → Nat} {w : Nat → lm_V} {u : Nat} (h : lm_hf f g c w u) : lm_hf f g (lm_ac c u []) (lm_aw w u []) (u + 0) := by
  intro p hp
  unfold lm_ac lm_aw
  rw [if_pos (by omega), if_pos (by omega)]; exact h p (by omega)
theorem lm_hf_app {f : Nat → Int32} {g : Nat → Int64} {c : Nat → Nat} {w : Nat → lm_V} {u n k : Nat} {x : lm_V} {M : lm_O} (h : lm_hf f g (lm_ac c u M) (lm_aw w u M) (u + n)) (hM : M.length = n) : lm_hf (lm_up f (u + n) (nI k)) (lm_up g (u + n) (en x)) (lm_ac c u (M ++ [(k, x)])) (lm_aw w u (M ++ [(k, x)])) (u + n + 1) := by
  intro p hp
  unfold lm_ac lm_aw
  by_cases e : p = u + n
  · rw [e, lm_up_eq, lm_up_eq, if_neg (by omega), if_neg (by omega), Nat.add_sub_cancel_left, ← hM, lm_getD_r (Nat.le_refl _)]
    simp
  · rw [lm_up_ne e, lm_up_ne e]
    have h1 := h p (by omega)
    unfold lm_ac lm_aw at h1
    by_cases e2 : p < u
    · rw [if_pos e2, if_pos e2] at h1 ⊢; exact h1
    · rw [if_neg e2, if_neg e2] at h1 ⊢
      rw [lm_getD_l (by omega)]; exact h1
theorem lm_hf_app2 {f : Nat → Int32} {g : Nat → Int64} {c : Nat → Nat} {w : Nat → lm_V} {u n k k2 : Nat} {x x2 : lm_V} {M : lm_O} (h : lm_hf f g (lm_ac c u M) (lm_aw w u M) (u + n)) (hM : M.length = n) : lm_hf (lm_up (lm_up f (u + n) (nI k)) (u + n + 1) (nI k2)) (lm_up (lm_up g (u + n) (en x)) (u + n + 1) (en x2)) (lm_ac c u (M ++ [(k, x), (k2, x2)])) (lm_aw w u (M ++ [(k, x), (k2, x2)])) (u + n + 1 + 1) := by
  have h1 := lm_hf_app (k := k) (x := x) h hM
  have h2 := lm_hf_app (n := n + 1) (k := k2) (x := x2) (M := M ++ [(k, x)]) h1 (by simp [hM])
  rw [List.append_assoc] at h2
  exact h2
theorem lm_hf_le {f : Nat → Int32} {g : Nat → Int64} {c : Nat → Nat} {w : Nat → lm_V} {u n : Nat} {M : lm_O} (h : lm_hf f g (lm_ac c u M) (lm_aw w u M) n) (hn : u ≤ n) : lm_hf f g c w u := by
  obtain ⟨k, rfl⟩ : ∃ k, n = u + k := ⟨n - u, by omega⟩
  exact lm_hf_low h
end
section
/-! The memory's state and what each call does to it: a code (0: no refusal), the new state -/
abbrev lm_X : Type := (Nat → Nat) × (Nat → lm_V) × Nat × (Nat → lm_V) × Int32
def lm_sx (σ : lm_X) : Prop := lm_st σ.1 σ.2.1 σ.2.2.1 σ.2.2.2.1
def lm_set (σ : lm_X) (r : Nat) (v : lm_V) : lm_X := (σ.1, σ.2.1, σ.2.2.1, lm_up σ.2.2.2.1 r v, σ.2.2.2.2)
def lm_col (σ : lm_X) : lm_X := (lm_gc σ.1 σ.2.1 σ.2.2.2.1, lm_gw σ.1 σ.2.1 σ.2.2.2.1, lm_gu σ.1 σ.2.1 σ.2.2.2.1, lm_gr σ.1 σ.2.1 σ.2.2.2.1, σ.2.2.2.2 + nI 1)
def lm_rm (n : Nat) (σ : lm_X) : lm_X := if σ.2.2.1 + n ≤ 120 then σ else lm_col σ
def lm_ap (σ : lm_X) (M : lm_O) : lm_X := (lm_ac σ.1 σ.2.2.1 M, lm_aw σ.2.1 σ.2.2.1 M, σ.2.2.1 + M.length, σ.2.2.2.1, σ.2.2.2.2)
def lm_pt (σ : lm_X) (p : Nat) (v : lm_V) : lm_X := (σ.1, lm_up σ.2.1 p v, σ.2.2.1, σ.2.2.2.1, σ.2.2.2.2)
def lm_ix (r : Int32) : Nat := r.toInt.toNat
theorem lm_ix_n {k : Nat} (h : k < 10) : lm_ix (nI k) = k := by
  unfold lm_ix; rw [nI_toInt (by omega)]; exact Int.toNat_natCast k
theorem lm_none_n {k : Nat} (h : k < 10) : lm_none (nI k) = false := by
  unfold lm_none; rw [nI_toInt (by omega)]; simp; omega
theorem lm_none_f {r : Int32} (h : lm_none r = false) : ∃ k : Nat, k < 10 ∧ r = nI k := by
  unfold lm_none at h
  have h := of_decide_eq_false h
  refine ⟨r.toInt.toNat, by omega, ?_⟩
  apply Int32.toInt_inj.1
  rw [nI_toInt (by omega)]
  omega
def lm_rg (x : Int64) : Bool := decide (x.toInt < -288230376151711744 ∨ 288230376151711743 < x.toInt)
def lm_oNumber (r : Int32) (x : Int64) (σ : lm_X) : Nat × lm_X := if lm_none r = true then (1, σ) else if lm_rg x = true then (2, σ) else (0, lm_set σ (lm_ix r) (1, x.toInt))
def lm_oDrop (r : Int32) (σ : lm_X) : Nat × lm_X := if lm_none r = true then (1, σ) else (0, lm_set σ (lm_ix r) (0, 0))
def lm_oCopy (r f : Int32) (σ : lm_X) : Nat × lm_X := if (lm_none r || lm_none f) = true then (1, σ) else (0, lm_set σ (lm_ix r) (σ.2.2.2.1 (lm_ix f)))
def lm_oCons (r f t : Int32) (σ : lm_X) : Nat × lm_X := if (lm_none r || lm_none f || lm_none t) = true then (1, σ) else
  if (lm_rm 2 σ).2.2.1 + 2 ≤ 120 then (0, lm_set (lm_ap (lm_rm 2 σ) [(2, (lm_rm 2 σ).2.2.2.1 (lm_ix f)), (3, (lm_rm 2 σ).2.2.2.1 (lm_ix t))]) (lm_ix r) (2, ((lm_rm 2 σ).2.2.1 : Int))) else (2, lm_rm 2 σ)
/-- a run of n roots from f on: its words from i on -/
def lm_lsM (rt : Nat → lm_V) (f : Nat) : Nat → lm_O
  | 0 => []
  | n + 1 => if n = 0 then [(1, rt f)] else (0, rt f) :: lm_lsM rt (f + 1) n
def lm_lb (f n : Int32) : Bool := decide (n.toInt < 1 ∨ 10 < n.toInt ∨ 10 - n.toInt < f.toInt)
def lm_oList (r f n : Int32) (σ : lm_X) : Nat × lm_X := if (lm_none r || lm_none f) = true then (1, σ) else if lm_lb f n = true then (2, σ) else
  if (lm_rm (lm_ix n) σ).2.2.1 + lm_ix n ≤ 120 then (0, lm_set (lm_ap (lm_rm (lm_ix n) σ) (lm_lsM (lm_rm (lm_ix n) σ).2.2.2.1 (lm_ix f) (lm_ix n))) (lm_ix r) (2, ((lm_rm (lm_ix n) σ).2.2.1 : Int))) else (3, lm_rm (lm_ix n) σ)
def lm_oFirst (r f : Int32) (σ : lm_X) : Nat × lm_X := if (lm_none r || lm_none f) = true then (1, σ) else if (σ.2.2.2.1 (lm_ix f)).1 ≠ 2 then (2, σ) else (0, lm_set σ (lm_ix r) (σ.2.1 (lm_to σ.2.1 (σ.2.2.2.1 (lm_ix f)))))
def lm_oRest (r f : Int32) (σ : lm_X) : Nat × lm_X := if (lm_none r || lm_none f) = true then (1, σ) else if (σ.2.2.2.1 (lm_ix f)).1 ≠ 2 then (2, σ) else (0, lm_set σ (lm_ix r) (lm_rest σ.1 σ.2.1 (lm_to σ.2.1 (σ.2.2.2.1 (lm_ix f)))))
def lm_oSetFirst (r f : Int32) (σ : lm_X) : Nat × lm_X := if (lm_none r || lm_none f) = true then (1, σ) else if (σ.2.2.2.1 (lm_ix r)).1 ≠ 2 then (2, σ) else (0, lm_pt σ (lm_to σ.2.1 (σ.2.2.2.1 (lm_ix r))) (σ.2.2.2.1 (lm_ix f)))
/-- setRest where the cell of root r is known: its code is 2, or it is not and there is room -/
def lm_sr (r f : Nat) (σ : lm_X) : lm_X := if σ.1 (lm_to σ.2.1 (σ.2.2.2.1 r)) = 2 then lm_pt σ (lm_to σ.2.1 (σ.2.2.2.1 r) + 1) (σ.2.2.2.1 f)
  else lm_pt (lm_ap σ [(2, σ.2.1 (lm_to σ.2.1 (σ.2.2.2.1 r))), (3, σ.2.2.2.1 f)]) (lm_to σ.2.1 (σ.2.2.2.1 r)) (3, (σ.2.2.1 : Int))
def lm_oSetRest (r f : Int32) (σ : lm_X) : Nat × lm_X := if (lm_none r || lm_none f) = true then (1, σ) else if (σ.2.2.2.1 (lm_ix r)).1 ≠ 2 then (2, σ) else
  if lm_same σ.2.1 (lm_rest σ.1 σ.2.1 (lm_to σ.2.1 (σ.2.2.2.1 (lm_ix r)))) (σ.2.2.2.1 (lm_ix f)) = true then (0, σ) else
  if σ.1 (lm_to σ.2.1 (σ.2.2.2.1 (lm_ix r))) = 2 then (0, lm_sr (lm_ix r) (lm_ix f) σ) else
  if (lm_rm 2 σ).2.2.1 + 2 ≤ 120 then (0, lm_sr (lm_ix r) (lm_ix f) (lm_rm 2 σ)) else (3, lm_rm 2 σ)
def lm_an (n : Nat) (v : lm_V) : Nat := n + (if v.1 = 0 then 0 else 1)
def lm_oAppend (r a b : Int32) (σ : lm_X) : Nat × lm_X := if (lm_none r || lm_none a || lm_none b) = true then (1, σ) else
  if lm_len σ.1 σ.2.1 121 0 (σ.2.2.2.1 (lm_ix a)) < 0 then (2, σ) else
  if lm_len σ.1 σ.2.1 121 0 (σ.2.2.2.1 (lm_ix a)) = 0 then (0, lm_set σ (lm_ix r) (σ.2.2.2.1 (lm_ix b))) else
  if (lm_rm (lm_an (lm_len σ.1 σ.2.1 121 0 (σ.2.2.2.1 (lm_ix a))).toNat (σ.2.2.2.1 (lm_ix b))) σ).2.2.1 + lm_an (lm_len σ.1 σ.2.1 121 0 (σ.2.2.2.1 (lm_ix a))).toNat (σ.2.2.2.1 (lm_ix b)) ≤ 120 then
    (0, lm_set (lm_ap (lm_rm (lm_an (lm_len σ.1 σ.2.1 121 0 (σ.2.2.2.1 (lm_ix a))).toNat (σ.2.2.2.1 (lm_ix b))) σ)
      (lm_apM (lm_rm (lm_an (lm_len σ.1 σ.2.1 121 0 (σ.2.2.2.1 (lm_ix a))).toNat (σ.2.2.2.1 (lm_ix b))) σ).1 (lm_rm (lm_an (lm_len σ.1 σ.2.1 121 0 (σ.2.2.2.1 (lm_ix a))).toNat (σ.2.2.2.1 (lm_ix b))) σ).2.1 (lm_len σ.1 σ.2.1 121 0 (σ.2.2.2.1 (lm_ix a))).toNat
        ((lm_rm (lm_an (lm_len σ.1 σ.2.1 121 0 (σ.2.2.2.1 (lm_ix a))).toNat (σ.2.2.2.1 (lm_ix b))) σ).2.2.2.1 (lm_ix a)) ((lm_rm (lm_an (lm_len σ.1 σ.2.1 121 0 (σ.2.2.2.1 (lm_ix a))).toNat (σ.2.2.2.1 (lm_ix b))) σ).2.2.2.1 (lm_ix b)))) (lm_ix r) (2, ((lm_rm (lm_an (lm_len σ.1 σ.2.1 121 0 (σ.2.2.2.1 (lm_ix a))).toNat (σ.2.2.2.1 (lm_ix b))) σ).2.2.1 : Int)))
  else (3, lm_rm (lm_an (lm_len σ.1 σ.2.1 121 0 (σ.2.2.2.1 (lm_ix a))).toNat (σ.2.2.2.1 (lm_ix b))) σ)
/-! where the state is as it must be behind each call -/
theorem lm_st_set {c : Nat → Nat} {w : Nat → lm_V} {u : Nat} {rt : Nat → lm_V} {k : Nat} {v : lm_V} (h : lm_st c w u rt) (hv : lm_ok c u v) : lm_st c w u (lm_up rt k v) := by
  refine ⟨h.1, fun r hr => ?_⟩
  by_cases e : r = k
  · rw [e, lm_up_eq]; exact hv
  · rw [lm_up_ne e]; exact h.2 r hr
theorem lm_sx_set {σ : lm_X} {k : Nat} {v : lm_V} (h : lm_sx σ) (hv : lm_ok σ.1 σ.2.2.1 v) : lm_sx (lm_set σ k v) := lm_st_set h hv
theorem lm_sx_col {σ : lm_X} (h : lm_sx σ) : lm_sx (lm_col σ) := (lm_gather_st h).1
theorem lm_sx_rm {σ : lm_X} (n : Nat) (h : lm_sx σ) : lm_sx (lm_rm n σ) := by
  unfold lm_rm
  split
  · exact h
  · exact lm_sx_col h
theorem lm_st_app {c : Nat → Nat} {w : Nat → lm_V} {u : Nat} {rt : Nat → lm_V} {M : lm_O} (h : lm_st c w u rt) (hM : lm_wO M False) (hv : ∀ x ∈ M, lm_ok c u x.2) (h3 : M.getD 0 (0, 0, 0) ∈ M → (M.getD 0 (0, 0, 0)).1 ≠ 3) (hu : u + M.length ≤ 120) : lm_st (lm_ac c u M) (lm_aw w u M) (u + M.length) rt :=
  ⟨lm_app_wf h.1 hM (fun x hx => Or.inl (hv x hx)) (fun x hx e => by rw [← e] at hx ⊢; exact h3 hx) hu, fun r hr => lm_ok_app (h.2 r hr)⟩
theorem lm_wO_p {a b : lm_V} : lm_wO [(2, a), (3, b)] False := by
  refine ⟨fun n hn => ?_, fun n hn h0 => ?_, fun n hn h0 => ?_, fun n hn h0 => ?_⟩
  · rcases (show n = 0 ∨ n = 1 by simp at hn; omega) with e | e <;> subst e <;> simp
  · rcases (show n = 0 ∨ n = 1 by simp at hn; omega) with e | e <;> subst e <;> simp at h0
  · rcases (show n = 0 ∨ n = 1 by simp at hn; omega) with e | e
    · subst e; simp
    · subst e; simp at h0
  · rcases (show n = 0 ∨ n = 1 by simp at hn; omega) with e | e
    · subst e; simp at h0
    · subst e; exact ⟨0, rfl, by simp⟩
theorem lm_ok_new {c : Nat → Nat} {u : Nat} {M : lm_O} (h : 0 < M.length) (h3 : (M.getD 0 (0, 0, 0)).1 ≠ 3) : lm_ok (lm_ac c u M) (u + M.length) (2, (u : Int)) := by
  refine Or.inr (Or.inr ⟨rfl, u, rfl, by omega, ?_⟩)
  unfold lm_ac; rw [if_neg (by omega), Nat.sub_self]; exact h3
/-- the reference's arrays behind a taken word -/
theorem lm_mf_app {cd kd : Nat → Int32} {ct : Nat → Int64} {c : Nat → Nat} {w : Nat → lm_V} {u n k : Nat} {x : lm_V} {M : lm_O} (h : lm_mf cd kd ct (lm_ac c u M) (lm_aw w u M) (u + n)) (hM : M.length = n) : lm_mf (lm_up cd (u + n) (nI k)) (lm_up kd (u + n) (nI x.1)) (lm_up ct (u + n) (jI x.2)) (lm_ac c u (M ++ [(k, x)])) (lm_aw w u (M ++ [(k, x)])) (u + n + 1) := by
  intro p hp
  unfold lm_ac lm_aw
  by_cases e : p = u + n
  · rw [e, lm_up_eq, lm_up_eq, lm_up_eq, if_neg (by omega), if_neg (by omega), Nat.add_sub_cancel_left, ← hM, lm_getD_r (Nat.le_refl _)]
    simp
  · rw [lm_up_ne e, lm_up_ne e, lm_up_ne e]
    have h1 := h p (by omega)
    unfold lm_ac lm_aw at h1
    by_cases e2 : p < u
    · rw [if_pos e2, if_pos e2] at h1 ⊢; exact h1
    · rw [if_neg e2, if_neg e2] at h1 ⊢
      rw [lm_getD_l (by omega)]; exact h1
theorem lm_mf_0 {cd kd : Nat → Int32} {ct : Nat → Int64} {c : Nat → Nat} {w : Nat → lm_V} {u : Nat} (h : lm_mf cd kd ct c w u) : lm_mf cd kd ct (lm_ac c u []) (lm_aw w u []) (u + 0) := by
  intro p hp
  unfold lm_ac lm_aw
  rw [if_pos (by omega), if_pos (by omega)]; exact h p (by omega)
theorem lm_mf_le {cd kd : Nat → Int32} {ct : Nat → Int64} {c : Nat → Nat} {w : Nat → lm_V} {u n : Nat} {M : lm_O} (h : lm_mf cd kd ct (lm_ac c u M) (lm_aw w u M) n) (hn : u ≤ n) : lm_mf cd kd ct c w u := by
  intro p hp
  have := h p (by omega)
  unfold lm_ac lm_aw at this
  rw [if_pos hp, if_pos hp] at this
  exact this
theorem lm_mf_2 {cd kd : Nat → Int32} {ct : Nat → Int64} {c : Nat → Nat} {w : Nat → lm_V} {u k k2 : Nat} {x x2 : lm_V} (h : lm_mf cd kd ct c w u) : lm_mf (lm_up (lm_up cd u (nI k)) (u + 1) (nI k2)) (lm_up (lm_up kd u (nI x.1)) (u + 1) (nI x2.1)) (lm_up (lm_up ct u (jI x.2)) (u + 1) (jI x2.2)) (lm_ac c u [(k, x), (k2, x2)]) (lm_aw w u [(k, x), (k2, x2)]) (u + 1 + 1) := by
  have h1 := lm_mf_app (k := k) (x := x) (lm_mf_0 h) rfl
  exact lm_mf_app (n := 1) (k := k2) (x := x2) (M := [(k, x)]) h1 rfl
theorem lm_hf_2 {f : Nat → Int32} {g : Nat → Int64} {c : Nat → Nat} {w : Nat → lm_V} {u k k2 : Nat} {x x2 : lm_V} (h : lm_hf f g c w u) : lm_hf (lm_up (lm_up f u (nI k)) (u + 1) (nI k2)) (lm_up (lm_up g u (en x)) (u + 1) (en x2)) (lm_ac c u [(k, x), (k2, x2)]) (lm_aw w u [(k, x), (k2, x2)]) (u + 1 + 1) := by
  have h1 := lm_hf_app (k := k) (x := x) (lm_hf_0 h) rfl
  exact lm_hf_app (n := 1) (k := k2) (x := x2) (M := [(k, x)]) h1 rfl
theorem lm_mf_up {cd kd : Nat → Int32} {ct : Nat → Int64} {c : Nat → Nat} {w : Nat → lm_V} {u p : Nat} {v : lm_V} (h : lm_mf cd kd ct c w u) : lm_mf cd (lm_up kd p (nI v.1)) (lm_up ct p (jI v.2)) c (lm_up w p v) u := by
  intro q hq
  by_cases e : q = p
  · subst e; rw [lm_up_eq, lm_up_eq, lm_up_eq]; exact ⟨(h q hq).1, rfl, rfl⟩
  · rw [lm_up_ne e, lm_up_ne e, lm_up_ne e]; exact h q hq
theorem lm_hf_up {f : Nat → Int32} {g : Nat → Int64} {c : Nat → Nat} {w : Nat → lm_V} {u p : Nat} {v : lm_V} (h : lm_hf f g c w u) : lm_hf f (lm_up g p (en v)) c (lm_up w p v) u := by
  intro q hq
  by_cases e : q = p
  · subst e; rw [lm_up_eq, lm_up_eq]; exact ⟨(h q hq).1, rfl⟩
  · rw [lm_up_ne e, lm_up_ne e]; exact h q hq
theorem lm_ro_up {rk1 : Nat → Int32} {rr1 : Nat → Int64} {rt : Nat → lm_V} {k : Nat} {v : lm_V} (h : ∀ r, r < 10 → rk1 r = nI (rt r).1 ∧ rr1 r = jI (rt r).2) : ∀ r, r < 10 → lm_up rk1 k (nI v.1) r = nI (lm_up rt k v r).1 ∧ lm_up rr1 k (jI v.2) r = jI (lm_up rt k v r).2 := by
  intro r hr
  by_cases e : r = k
  · rw [e, lm_up_eq, lm_up_eq, lm_up_eq]; exact ⟨rfl, rfl⟩
  · rw [lm_up_ne e, lm_up_ne e, lm_up_ne e]; exact h r hr
theorem lm_rc_up {gr : Nat → Int64} {rt : Nat → lm_V} {k : Nat} {v : lm_V} (h : ∀ r, r < 10 → gr r = en (rt r)) : ∀ r, r < 10 → lm_up gr k (en v) r = en (lm_up rt k v r) := by
  intro r hr
  by_cases e : r = k
  · rw [e, lm_up_eq, lm_up_eq]
  · rw [lm_up_ne e, lm_up_ne e]; exact h r hr
theorem jI_toInt (x : Int64) : jI x.toInt = x := by
  unfold jI; exact Int64.ofInt_toInt x
theorem lm_rm_y {n : Nat} {σ : lm_X} (h : σ.2.2.1 + n ≤ 120) : lm_rm n σ = σ := by unfold lm_rm; rw [if_pos h]
theorem lm_rm_n {n : Nat} {σ : lm_X} (h : ¬ σ.2.2.1 + n ≤ 120) : lm_rm n σ = lm_col σ := by unfold lm_rm; rw [if_neg h]
end
