/-! A method with handlers: its contract, its start, a call whose throw it catches, a call of it -/
def lm_WH (M : lm_Me) (hh : List (Nat × Nat × Nat × Nat)) : List Cond := .codeWith M.1 M.2.1 M.2.2.1 M.2.2.2 hh :: lm_T
def lm_CH (l : Launch) (K : lm_G) (M : lm_Me) (hh : List (Nat × Nat × Nat × Nat)) (rm : Room) (as : List Value) (ws : va_W) (post : Option Value → va_W → Prop) : Prop := ∀ sz : Nat, vx_Met l M.1 (lm_WH M hh) rm (va_Pc as (lm_InX l K ws sz)) (lm_Q K (va_A ws sz) post) (fun _ _ _ => False) rm.cells rm.slots (va_A ws sz)
def lx_te (x : Nat × Nat × Nat × Nat) : ExceptionTableEntry := ⟨x.1, x.2.1, x.2.2.1, x.2.2.2⟩
def lx_wC (own : String) (pc : Nat) (cls : String) (pre : List (Nat × Nat × Nat × Nat)) (x : Nat × Nat × Nat × Nat) : Prop := covers (lx_te x) pc = true ∧ x.2.2.2 ≠ 0 ∧ Cond.classLink own x.2.2.2 cls ∈ lm_T ∧ Cond.castable cls cls ∈ lw_tbl ∧ ∀ z ∈ pre, z.2.2.2 ≠ 0 ∧ ∃ nm : String, Cond.classLink own z.2.2.2 nm ∈ lm_T ∧ (cls ∈ lm_exc ∧ nm ∈ lm_exc ∧ cls ≠ nm)
theorem lx_teq (pre : List (Nat × Nat × Nat × Nat)) (x : Nat × Nat × Nat × Nat) (suf : List (Nat × Nat × Nat × Nat)) : tableOf (pre ++ x :: suf) = pre.map lx_te ++ lx_te x :: suf.map lx_te := by
  show (pre ++ x :: suf).map lx_te = _
  rw [List.map_append, List.map_cons]
theorem lx_metH {l : Launch} {K : lm_G} {M : lm_Me} {hh : List (Nat × Nat × Nat × Nat)} {rm : Room} {as : List Value} {ws : va_W} {post : Option Value → va_W → Prop} (own : String) (hy : plainName M.1.cls = true) (ho : M.1.cls = own) (hnl : (lg_sl as).length ≤ M.2.2.1)
    (body : ∀ E : lx_E, xl E = l → lx_F K M.2.2.1 E M.2.1 own M.2.2.2 rm → lm_Th (xl E) (xA E) (xs E) (xs E).heap → (xc E).exceptionTable.toList = tableOf hh → lx_RQ K E rm.cells rm.slots post → lx_W K M.2.2.1 E 0 0 0 (lv_args 0 as) [] ws) : lm_CH l K M hh rm as ws post := by
  intro sz
  refine vx_ofWH (cc := M.2.1) (maxL := M.2.2.1) (ret := M.2.2.2) (hh := hh) hy rfl ?_
  intro p e s m args below meth c s₁ B hml hv
  obtain ⟨rfl, ⟨hsz, hP, hK, hD0, hN⟩, hTh⟩ := hv
  have hts := atoms_spec (ws := lm_WH M hh) B.pre
  have htb := vx_table (x := M.1) B (hts _ List.mem_cons_self)
  have hown : s.vm.findClass own = some m.cls := by rw [← ho]; exact findClass_of_methodNamed B.named
  subst hsz
  have hl := lv_entry as (n := M.2.2.1) hnl
  rw [lg_entry_eq]
  exact body (p, l, e, (headSpec (lm_WH M hh) rm).room, s, m, as.toArray, below, meth, c, _, va_A ws s.heap.size) rfl ⟨⟨B.exec, B.bytes, hml, hown, fun w hw => hts w (List.mem_cons_of_mem _ hw)⟩, hK, hN, fun q h => Or.inr h, B.returns, B.notSynchronized, rfl⟩ hTh htb (fun _ _ _ k => vx_ret k) s.heap [] _ hl hP hD0.self va_S.rf
section LXH
variable {K : lm_G} {nL : Nat} {E : lx_E} {cc : ByteArray} {own : String} {ret : Option FieldType} {rm : Room} {a b pc : Nat} {lv : List (Nat × Value)} {st : List Value} {ws : va_W}
variable {M : lm_Me} {rm' : Room} {as stk : List Value} {wc : va_W} {index n : Nat} {cls : String} {postc : va_W → Prop} {hh : List (Nat × Nat × Nat × Nat)}
theorem lx_cvC (F : lx_F K nL E cc own ret rm) (hTh : lm_Th (xl E) (xA E) (xs E) (xs E).heap) (htb : (xc E).exceptionTable.toList = tableOf hh) {r : Nat} (hM : lm_CX (xl E) K M rm' (.ref r :: as) wc cls postc) (hw : lx_wV own index M n) (q0 : Nat) {ci : Nat} {fs : List Value} {T : u_T} {N : Nat} (hc : lmCl[ci]? = some (M.1.cls, T, N)) (he : ws[q0]? = some (r, .inr (ci, fs))) (isC isR : List Nat) (wr : va_W) (hC : isC.map (fun i => ws[i]?) = wc.map some) (hRs : isR.map (fun i => ws[i]?) = wr.map some) (hq : va_nd isC = true ∧ va_nd isR = true ∧ ∀ i ∈ isR, i ∉ isC) (hn : as.length = n) (hst : stk = as.reverse ++ .ref r :: st) (hcat : (st.map fun v => v.category).sum ≤ 8) (hR : rm'.frames + 1 ≤ rm.frames ∧ 8 + (M.2.2.1 + 11) + rm'.locals ≤ rm.locals) (hf : a + rm'.cells ≤ rm.cells ∧ b + rm'.slots ≤ rm.slots) (hd : decode cc pc = .ok (.invokevirtual index, 3))
    (pre : List (Nat × Nat × Nat × Nat)) (x : Nat × Nat × Nat × Nat) (suf : List (Nat × Nat × Nat × Nat)) (hsp : hh = pre ++ x :: suf) (hcw : lx_wC own pc cls pre x)
    (k : ∀ (q : Nat) (w : va_W), postc w → lx_W K nL E (a + rm'.cells) (b + rm'.slots) x.2.2.1 lv [.ref q] (wr ++ w)) : lx_W K nL E a b pc lv stk ws := by
  intro H L ls h hP hD hS
  have hRm : xR E = rm := F.2.2.2.2.2.2
  have hpre := lx_preX (as := .ref r :: as) F hTh hP hD hS isC hC hq.1
  obtain ⟨g1, g2, g3, g4, g5⟩ := hcw
  refine lx_thr F isC isR hC hRs hq.2.1 hq.2.2 hP hD hS (vx_runV (ret := M.2.2.2) (C := M.1.cls) F.1 (hM H.size) ⟨callB_of n F.1.2.2.2.2 (lx_goodIn hw.1) rfl rfl rfl (F.1.2.2.2.2 _ hw.2.1) (F.1.2.2.2.2 _ hw.2.2.1) hw.2.2.2.2 (by rw [hRm]; exact hR), F.1.2.2.2.2 _ hw.2.2.2.1.1, F.1.2.2.2.2 _ hw.2.2.2.1.2⟩ ⟨hpre.1, va_recv F.2.1 hP hc he, hpre.2⟩ rfl hn h.1 hst (lv_room hcat) hd (by rw [hRm]; exact hf)) (fun w H1 L1 q ce hp hP' hD' hS' hce hcv hcl => ?_)
  refine vx_catch (E := cls) (name := cls) F.1.2.2.2.1 (pre.map lx_te) (lx_te x) (suf.map lx_te) (by rw [htb, hsp]; exact lx_teq pre x suf) ?_ g1 g2 (F.1.2.2.2.2 _ g3) (va_Nw.use rfl (hTh.2.2.2.1 _ g4 rfl)) hce hcv hcl (k q w hp H1 L1 ls h hP' hD' hS')
  intro z hz
  obtain ⟨y, hy, rfl⟩ := List.mem_map.mp hz
  obtain ⟨a1, nm, a2, a3, a4, a5⟩ := g5 y hy
  exact Or.inr ⟨a1, nm, F.1.2.2.2.2 _ a2, hTh.2.2.2.2.2 _ a3 _ a4 a5⟩
end LXH
