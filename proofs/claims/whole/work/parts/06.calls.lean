/-! Calls, and a contract's start, by the judgement lx_W -/
theorem lm_good {w : Cond} (h : w ∈ lm_T) : goodWord w = true := (List.mem_filter.mp h).2
def lx_ok (y : MethodName) (n : Nat) : Prop := y.cls ≠ "java/lang/invoke/MethodHandle" ∧ y.cls ≠ "java/lang/invoke/VarHandle" ∧ (parseMethodDescriptor y.desc).map (fun d => d.parameters.length) = some n
def lx_wc (M : lm_Me) : Cond := .code M.1 M.2.1 M.2.2.1 M.2.2.2
def lx_wS (own : String) (index : Nat) (M : lm_Me) (n : Nat) : Prop := lx_wc M ∈ lm_T ∧ Cond.initialized M.1.cls ∈ lm_T ∧ Cond.methodLink own index M.1 ∈ lm_T ∧ Cond.static M.1 ∈ lm_T ∧ lx_ok M.1 n
def lx_wV (own : String) (index : Nat) (M : lm_Me) (n : Nat) : Prop := lx_wc M ∈ lm_T ∧ Cond.initialized M.1.cls ∈ lm_T ∧ Cond.methodLink own index M.1 ∈ lm_T ∧ (Cond.instanceMethod M.1 ∈ lm_T ∧ Cond.selects M.1.cls M.1 M.1 ∈ lm_T) ∧ lx_ok M.1 n
def lx_wI (own : String) (index : Nat) (M : lm_Me) (n : Nat) : Prop := lx_wc M ∈ lm_T ∧ Cond.initialized M.1.cls ∈ lm_T ∧ Cond.methodLink own index M.1 ∈ lm_T ∧ (M.2.2.2 = none ∧ M.1.name = "<init>" ∧ Cond.instanceMethod M.1 ∈ lm_T) ∧ lx_ok M.1 n
def lx_wSN (own : String) (index : Nat) (M : lm_Me) (host : String) (n : Nat) : Prop := lx_wc M ∈ lm_T ∧ Cond.initialized M.1.cls ∈ lm_T ∧ Cond.methodLinkNest own index M.1 host ∈ lw_tbl ∧ Cond.static M.1 ∈ lm_T ∧ lx_ok M.1 n
def lx_wIN (own : String) (index : Nat) (M : lm_Me) (host : String) (n : Nat) : Prop := lx_wc M ∈ lm_T ∧ Cond.initialized M.1.cls ∈ lm_T ∧ Cond.methodLinkNest own index M.1 host ∈ lw_tbl ∧ (M.2.2.2 = none ∧ M.1.name = "<init>" ∧ Cond.instanceMethod M.1 ∈ lm_T) ∧ lx_ok M.1 n
theorem lx_goodIn {M : lm_Me} (h : lx_wc M ∈ lm_T) : GoodIn lm_T (lm_W M) := by
  intro w hw
  have h1 : w ∈ lm_T := by
    rcases List.mem_cons.mp hw with e | e
    · rw [e]; exact h
    · exact e
  exact ⟨h1, good_of_word (lm_good h1)⟩
section LXC
variable {K : lm_G} {nL : Nat} {E : lx_E} {cc : ByteArray} {own : String} {ret : Option FieldType} {rm : Room} {a b pc : Nat} {lv : List (Nat × Value)} {st : List Value} {ws : va_W}
variable {M : lm_Me} {rm' : Room} {as stk : List Value} {wc : va_W} {post : Option Value → va_W → Prop} {index n : Nat} {H : Heap}
theorem lx_pre (F : lx_F K nL E cc own ret rm) (hP : va_P K.1 lmCl ws H) (hD : va_D (xA E) ws) (isC : List Nat) (hC : isC.map (fun i => ws[i]?) = wc.map some) (hnd : va_nd isC = true) : PreS (xs E) H (va_Pc as (lm_In K wc H.size)) as :=
  ⟨fun av U g mk q => by
    obtain ⟨q0, q1, qP, qK, qD, qN⟩ := q
    exact ⟨q0, q1, qP, va_K.moved (u := U) (U := U.calling g mk av) (Vm.Alike.refl U.vm) qK, qD, lm_N.same (u := U) (U := U.calling g mk av) rfl qN⟩,
   fun U hU hW => ⟨rfl, by rw [hU], by rw [hU]; exact hP.sub isC (lx_fm hC), va_K.moved hW.alike F.2.1, (hD.sub isC hnd hC).weaken (fun _ _ _ _ => trivial), lm_N.warm hW F.2.2.1⟩⟩
theorem lx_fin (F : lx_F K nL E cc own ret rm) {wr : va_W} {L : List Loc} {ls : Array Slot} {av : Array Value} (isC isR : List Nat) (hC : isC.map (fun i => ws[i]?) = wc.map some) (hRs : isR.map (fun i => ws[i]?) = wr.map some) (hnr : va_nd isR = true) (hdis : ∀ i ∈ isR, i ∉ isC)
    (h : lv_has ls nL lv) (hP : va_P K.1 lmCl ws H) (hD : va_D (xA E) ws) (hS : va_S (xA E) (xs E).heap H L)
    (hr : va_Run (xp E) (xl E) (xe E) (xR E) (xs E) (xm E) (xa E) (xb E) (xt E) (xc E) H L a b rm'.cells rm'.slots (F0 (xm E) pc ls stk) st (lm_Q K (va_A wc H.size) post av) (va_A wc H.size))
    (k : ∀ (v : Option Value) (w : va_W), post v w → lx_W K nL E (a + rm'.cells) (b + rm'.slots) (pc + 3) lv (v.toList ++ st) (wr ++ w)) :
    W (xp E) (xl E) (xe E) (xR E) (xs E) (xm E) (xa E) (xb E) (xt E) (xc E) H L a b (xq E) (F0 (xm E) pc ls stk) := by
  have hF := va_free hD hS F.2.2.2.1 isC hC
  intro T hT X
  obtain ⟨v, st₀, t, T', L', h0, X', hL, e1, e2, ⟨⟨v', w, hv, hp, hPw, hDw⟩, hFr⟩, sg⟩ := hr T hT X
  cases hv
  obtain ⟨k1, k2, k3⟩ := vx_keep h0 e1 hS (fun q _ hq => hF q hq) hF hL hFr
  rw [← e1] at hPw
  obtain ⟨hP', hD'⟩ := va_join hP hD isC isR hC hRs hnr hdis k2 hF hPw hDw
  obtain ⟨t2, a1, b1⟩ := k _ w hp T'.heap (L ++ L') ls h hP' hD' k3 T' rfl X'
  exact ⟨t2, sg t2 a1, b1⟩
theorem lx_cs (F : lx_F K nL E cc own ret rm) (hM : lm_C (xl E) K M rm' as wc post) (hw : lx_wS own index M n) (isC isR : List Nat) (wr : va_W) (hC : isC.map (fun i => ws[i]?) = wc.map some) (hRs : isR.map (fun i => ws[i]?) = wr.map some) (hq : va_nd isC = true ∧ va_nd isR = true ∧ ∀ i ∈ isR, i ∉ isC) (hn : as.length = n) (hst : stk = as.reverse ++ st) (hcat : (st.map fun v => v.category).sum ≤ 8) (hR : rm'.frames + 1 ≤ rm.frames ∧ 8 + (M.2.2.1 + 11) + rm'.locals ≤ rm.locals) (hf : a + rm'.cells ≤ rm.cells ∧ b + rm'.slots ≤ rm.slots) (hd : decode cc pc = .ok (.invokestatic index, 3))
    (k : ∀ (v : Option Value) (w : va_W), post v w → lx_W K nL E (a + rm'.cells) (b + rm'.slots) (pc + 3) lv (v.toList ++ st) (wr ++ w)) : lx_W K nL E a b pc lv stk ws := by
  intro H L ls h hP hD hS
  have hRm : xR E = rm := F.2.2.2.2.2.2
  exact lx_fin F isC isR hC hRs hq.2.1 hq.2.2 h hP hD hS (va_runS (ret := M.2.2.2) F.1 (hM H.size) ⟨callB_of n F.1.2.2.2.2 (lx_goodIn hw.1) rfl rfl rfl (F.1.2.2.2.2 _ hw.2.1) (F.1.2.2.2.2 _ hw.2.2.1) hw.2.2.2.2 (by rw [hRm]; exact hR), F.1.2.2.2.2 _ hw.2.2.2.1⟩ (lx_pre F hP hD isC hC hq.1) rfl hn h.1 hst (lv_room hcat) hd (by rw [hRm]; exact hf)) k
theorem lx_csn (F : lx_F K nL E cc own ret rm) {host : String} (hM : lm_C (xl E) K M rm' as wc post) (hw : lx_wSN own index M host n) (isC isR : List Nat) (wr : va_W) (hC : isC.map (fun i => ws[i]?) = wc.map some) (hRs : isR.map (fun i => ws[i]?) = wr.map some) (hq : va_nd isC = true ∧ va_nd isR = true ∧ ∀ i ∈ isR, i ∉ isC) (hn : as.length = n) (hst : stk = as.reverse ++ st) (hcat : (st.map fun v => v.category).sum ≤ 8) (hR : rm'.frames + 1 ≤ rm.frames ∧ 8 + (M.2.2.1 + 11) + rm'.locals ≤ rm.locals) (hf : a + rm'.cells ≤ rm.cells ∧ b + rm'.slots ≤ rm.slots) (hd : decode cc pc = .ok (.invokestatic index, 3))
    (k : ∀ (v : Option Value) (w : va_W), post v w → lx_W K nL E (a + rm'.cells) (b + rm'.slots) (pc + 3) lv (v.toList ++ st) (wr ++ w)) : lx_W K nL E a b pc lv stk ws := by
  intro H L ls h hP hD hS
  have hRm : xR E = rm := F.2.2.2.2.2.2
  exact lx_fin F isC isR hC hRs hq.2.1 hq.2.2 h hP hD hS (va_runSN (ret := M.2.2.2) F.1 (hM H.size) ⟨va_cnB n F.1.2.2.2.2 (lx_goodIn hw.1) rfl rfl rfl (F.2.2.1 _ hw.2.2.1 rfl) (F.1.2.2.2.2 _ hw.2.1) hw.2.2.2.2 (by rw [hRm]; exact hR), F.1.2.2.2.2 _ hw.2.2.2.1, trivial⟩ (lx_pre F hP hD isC hC hq.1) rfl hn h.1 hst (lv_room hcat) hd (by rw [hRm]; exact hf)) k
theorem lx_cv (F : lx_F K nL E cc own ret rm) {r : Nat} (hM : lm_C (xl E) K M rm' (.ref r :: as) wc post) (hw : lx_wV own index M n) (q0 : Nat) {ci : Nat} {fs : List Value} {T : u_T} {N : Nat} (hc : lmCl[ci]? = some (M.1.cls, T, N)) (he : ws[q0]? = some (r, .inr (ci, fs))) (isC isR : List Nat) (wr : va_W) (hC : isC.map (fun i => ws[i]?) = wc.map some) (hRs : isR.map (fun i => ws[i]?) = wr.map some) (hq : va_nd isC = true ∧ va_nd isR = true ∧ ∀ i ∈ isR, i ∉ isC) (hn : as.length = n) (hst : stk = as.reverse ++ .ref r :: st) (hcat : (st.map fun v => v.category).sum ≤ 8) (hR : rm'.frames + 1 ≤ rm.frames ∧ 8 + (M.2.2.1 + 11) + rm'.locals ≤ rm.locals) (hf : a + rm'.cells ≤ rm.cells ∧ b + rm'.slots ≤ rm.slots) (hd : decode cc pc = .ok (.invokevirtual index, 3))
    (k : ∀ (v : Option Value) (w : va_W), post v w → lx_W K nL E (a + rm'.cells) (b + rm'.slots) (pc + 3) lv (v.toList ++ st) (wr ++ w)) : lx_W K nL E a b pc lv stk ws := by
  intro H L ls h hP hD hS
  have hRm : xR E = rm := F.2.2.2.2.2.2
  have hpre := lx_pre (as := .ref r :: as) F hP hD isC hC hq.1
  exact lx_fin F isC isR hC hRs hq.2.1 hq.2.2 h hP hD hS (va_runV (ret := M.2.2.2) (C := M.1.cls) F.1 (hM H.size) ⟨callB_of n F.1.2.2.2.2 (lx_goodIn hw.1) rfl rfl rfl (F.1.2.2.2.2 _ hw.2.1) (F.1.2.2.2.2 _ hw.2.2.1) hw.2.2.2.2 (by rw [hRm]; exact hR), F.1.2.2.2.2 _ hw.2.2.2.1.1, F.1.2.2.2.2 _ hw.2.2.2.1.2⟩ ⟨hpre.1, va_recv F.2.1 hP hc he, hpre.2⟩ rfl hn h.1 hst (lv_room hcat) hd (by rw [hRm]; exact hf)) k
theorem lx_cin (F : lx_F K nL E cc own ret rm) {host : String} {r : Nat} {y : MethodName} {cb : ByteArray} {mL : Nat} (hM : lm_C (xl E) K (y, cb, mL, none) rm' (.ref r :: as) wc post) (hw : lx_wIN own index (y, cb, mL, none) host n) (isC isR : List Nat) (wr : va_W) (hC : isC.map (fun i => ws[i]?) = wc.map some) (hRs : isR.map (fun i => ws[i]?) = wr.map some) (hq : va_nd isC = true ∧ va_nd isR = true ∧ ∀ i ∈ isR, i ∉ isC) (hn : as.length = n) (hst : stk = as.reverse ++ .ref r :: st) (hcat : (st.map fun v => v.category).sum ≤ 8) (hR : rm'.frames + 1 ≤ rm.frames ∧ 8 + (mL + 11) + rm'.locals ≤ rm.locals) (hf : a + rm'.cells ≤ rm.cells ∧ b + rm'.slots ≤ rm.slots) (hd : decode cc pc = .ok (.invokespecial index, 3))
    (k : ∀ (v : Option Value) (w : va_W), post v w → lx_W K nL E (a + rm'.cells) (b + rm'.slots) (pc + 3) lv (v.toList ++ st) (wr ++ w)) : lx_W K nL E a b pc lv stk ws := by
  intro H L ls h hP hD hS
  have hRm : xR E = rm := F.2.2.2.2.2.2
  exact lx_fin F isC isR hC hRs hq.2.1 hq.2.2 h hP hD hS (va_runIN F.1 (hM H.size) ⟨va_cnB n F.1.2.2.2.2 (lx_goodIn hw.1) rfl rfl rfl (F.2.2.1 _ hw.2.2.1 rfl) (F.1.2.2.2.2 _ hw.2.1) hw.2.2.2.2 (by rw [hRm]; exact hR), hw.2.2.2.1.2.1, F.1.2.2.2.2 _ hw.2.2.2.1.2.2⟩ (lx_pre F hP hD isC hC hq.1) rfl hn h.1 hst (lv_room hcat) hd (by rw [hRm]; exact hf)) k
theorem lx_ci (F : lx_F K nL E cc own ret rm) {r : Nat} {y : MethodName} {cb : ByteArray} {mL : Nat} (hM : lm_C (xl E) K (y, cb, mL, none) rm' (.ref r :: as) wc post) (hw : lx_wI own index (y, cb, mL, none) n) (isC isR : List Nat) (wr : va_W) (hC : isC.map (fun i => ws[i]?) = wc.map some) (hRs : isR.map (fun i => ws[i]?) = wr.map some) (hq : va_nd isC = true ∧ va_nd isR = true ∧ ∀ i ∈ isR, i ∉ isC) (hn : as.length = n) (hst : stk = as.reverse ++ .ref r :: st) (hcat : (st.map fun v => v.category).sum ≤ 8) (hR : rm'.frames + 1 ≤ rm.frames ∧ 8 + (mL + 11) + rm'.locals ≤ rm.locals) (hf : a + rm'.cells ≤ rm.cells ∧ b + rm'.slots ≤ rm.slots) (hd : decode cc pc = .ok (.invokespecial index, 3))
    (k : ∀ (v : Option Value) (w : va_W), post v w → lx_W K nL E (a + rm'.cells) (b + rm'.slots) (pc + 3) lv (v.toList ++ st) (wr ++ w)) : lx_W K nL E a b pc lv stk ws := by
  intro H L ls h hP hD hS
  have hRm : xR E = rm := F.2.2.2.2.2.2
  exact lx_fin F isC isR hC hRs hq.2.1 hq.2.2 h hP hD hS (va_runI F.1 (hM H.size) ⟨callB_of n F.1.2.2.2.2 (lx_goodIn hw.1) rfl rfl rfl (F.1.2.2.2.2 _ hw.2.1) (F.1.2.2.2.2 _ hw.2.2.1) hw.2.2.2.2 (by rw [hRm]; exact hR), hw.2.2.2.1.2.1, F.1.2.2.2.2 _ hw.2.2.2.1.2.2⟩ (lx_pre F hP hD isC hC hq.1) rfl hn h.1 hst (lv_room hcat) hd (by rw [hRm]; exact hf)) k
theorem lx_obj (F : lx_F K nL E cc own ret rm) {r idx : Nat} (hl : Cond.methodLink own idx objectInit ∈ lm_T) (hi : Cond.instanceMethod objectInit ∈ lm_T) (hcd : Cond.code objectInit ⟨#[0xb1]⟩ 1 none ∈ lm_T) (hfr : 1 ≤ rm.frames) (hlo : 12 ≤ rm.locals) (hd : decode cc pc = .ok (.invokespecial idx, 3)) (k : lx_W K nL E a b (pc + 3) lv [] ws) : lx_W K nL E a b pc lv [.ref r] ws := by
  intro H L ls h hP hD hS
  have hRm : xR E = rm := F.2.2.2.2.2.2
  exact W.objInit F.1.1 F.1.2.1 F.1.2.2.2.1 (F.1.2.2.2.2 _ hl) (F.1.2.2.2.2 _ hi) (F.1.2.2.2.2 _ hcd) rfl (h.1.trans F.1.2.2.1.symm) rfl hd (by rw [hRm]; exact hfr) (by rw [hRm]; exact hlo) (k H L ls h hP hD hS)
end LXC
/-- a contract's start -/
theorem lx_met {l : Launch} {K : lm_G} {M : lm_Me} {rm : Room} {as : List Value} {ws : va_W} {post : Option Value → va_W → Prop} (own : String) (hy : plainName M.1.cls = true) (ho : M.1.cls = own) (hnl : (lg_sl as).length ≤ M.2.2.1)
    (body : ∀ E : lx_E, xl E = l → (xt E).name = M.1.name → lx_F K M.2.2.1 E M.2.1 own M.2.2.2 rm → lx_RQ K E rm.cells rm.slots post → lx_W K M.2.2.1 E 0 0 0 (lv_args 0 as) [] ws) : lm_C l K M rm as ws post := by
  intro sz
  refine Met.ofW (cc := M.2.1) (maxL := M.2.2.1) (ret := M.2.2.2) hy rfl ?_
  intro p e s m args below meth c s₁ B hml hv
  obtain ⟨rfl, hsz, hP, hK, hD0, hN⟩ := hv
  have hts := atoms_spec (ws := lm_W M) B.pre
  have hown : s.vm.findClass own = some m.cls := by rw [← ho]; exact findClass_of_methodNamed B.named
  have hin : meth.name = M.1.name := (name_of_methodNamed B.named B.method).1
  subst hsz
  have hl := lv_entry as (n := M.2.2.1) hnl
  rw [lg_entry_eq]
  exact body (p, l, e, (headSpec (lm_W M) rm).room, s, m, as.toArray, below, meth, c, _, va_A ws s.heap.size) rfl hin ⟨⟨B.exec, B.bytes, hml, hown, fun w hw => hts w (List.mem_cons_of_mem _ hw)⟩, hK, hN, fun q h => Or.inr h, B.returns, B.notSynchronized, rfl⟩ (fun _ _ _ k => k) s.heap [] _ hl hP hD0.self va_S.rf
