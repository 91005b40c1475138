/-! calls, returns, and the whole -/
def am_rm (d : Nat) : Room := { frames := d + 1, cells := 0, slots := 0, locals := 40 * d + 40 }
noncomputable def am_wsA (i : Nat) : List Jvm.Cond := Jvm.Cond.code (am_Y i) (am_C i) (am_L i) (am_R i) :: am_ws
/-- the store on a state's heap, and what the tables say -/
def am_Wd (ad : Nat → Nat) (D : va_G) (c4 : am_T4) (M : am_M) (U : State) : Prop := va_P D vwCl (am_w ad c4 M) U.heap ∧ va_K D vwCl (am_ty c4) U ∧ am_NW U ∧
  va_Z "ShelfNights" "KIND_ABOVE" "[I" (.ref (ad 1000)) (am_A ad) U U.heap ∧ va_T .int (ad 1000) 7 (fun j => .int (am_sta 1000 j)) (am_A ad) U U.heap ∧ va_Z "ShelfNights" "NAMES" "[I" (.ref (ad 1001)) (am_A ad) U U.heap ∧ va_T .int (ad 1001) 6 (fun j => .int (am_sta 1001 j)) (am_A ad) U U.heap
def am_Qc (ad : Nat → Nat) (D : va_G) (c4 : am_T4) (r : Option Value × am_M) : Array Value → State → Outcome → State → Prop := fun _ st o t => (o = .returned (r.1.map (am_cv ad)) ∧ va_P D vwCl (am_w ad c4 r.2) t.heap) ∧ va_F (am_A ad) st t
/-- a method's contract at one store -/
def am_Met (l : Launch) (d : Nat) (ad : Nat → Nat) (D : va_G) (c4 : am_T4) (i : Nat) (as : List Value) (M : am_M) (r : Option Value × am_M) : Prop := Met l (am_Y i) (am_wsA i) (am_rm d) (va_Pc (as.map (am_cv ad)) (am_Wd ad D c4 M)) (am_Qc ad D c4 r) 0 0 (am_A ad)
theorem am_NW_warm {s U : State} (hW : s.WarmedH U.vm) (h : am_NW s) : am_NW U := fun j a i b n d hh hj => (h j a i b n d hh hj).warmF hW
theorem am_blind {ad : Nat → Nat} {D : va_G} {c4 : am_T4} {M : am_M} {av : List Value} : FrameBlind (va_Pc av (am_Wd ad D c4 M)) := by
  intro a U g mk ⟨h1, hP, hK, hN, z1, t1, z2, t2⟩
  refine ⟨h1, hP, va_K.moved (u := U) (U := U.calling g mk a) (Vm.Alike.refl U.vm) hK, fun j a' i b n d hh hj => (hN j a' i b n d hh hj).same rfl rfl, ?_, ?_, ?_, ?_⟩
  · exact va_Z.moved (u := U) (U := U.calling g mk a) (Vm.Alike.refl U.vm) z1
  · exact va_T.moved (u := U) (U := U.calling g mk a) (Vm.Alike.refl U.vm) t1
  · exact va_Z.moved (u := U) (U := U.calling g mk a) (Vm.Alike.refl U.vm) z2
  · exact va_T.moved (u := U) (U := U.calling g mk a) (Vm.Alike.refl U.vm) t2
theorem am_goodin {l : List Jvm.Cond} (h : ∀ w ∈ l, w ∈ am_ws) : GoodIn am_ws l := fun w hw => ⟨h w hw, good_of_word (List.mem_filter.mp (h w hw)).2⟩
theorem am_wsA_in {i : Nat} (h : i < am_N) : ∀ w ∈ am_wsA i, w ∈ am_ws := fun w hw => by
  rcases List.mem_cons.mp hw with rfl | hw
  · exact am_word (am_codes i h).1 rfl
  · exact hw
theorem am_max : lw_tbl.contains (Jvm.Cond.static Lib.Math.max.name) = true ∧ lw_tbl.contains (Jvm.Cond.code Lib.Math.max.name Lib.Math.max.code 2 (some .int)) = true ∧ lw_tbl.contains (Jvm.Cond.static Lib.Math.min.name) = true ∧ lw_tbl.contains (Jvm.Cond.code Lib.Math.min.name Lib.Math.min.code 2 (some .int)) = true ∧ lw_tbl.contains (Jvm.Cond.initialized "java/lang/Math") = true ∧ lw_tbl.contains (Jvm.Cond.native arraycopyName) = true ∧ lw_tbl.contains (Jvm.Cond.static arraycopyName) = true ∧ lw_tbl.contains (Jvm.Cond.initialized "java/lang/System") = true := by decide +kernel
theorem am_has {w : Jvm.Cond} (h : lw_tbl.contains w = true) (hg : goodWord w = true) : w ∈ am_ws := List.mem_filter.mpr ⟨by simpa using h, hg⟩
section AMS4
variable {p : Program} {l : Launch} {e : Env} {R : Room} {s : State} {m : MethodId} {args : Array Value} {below : List Frame} {meth : Method} {c : Code} {own : String} {cc : ByteArray} {rt : Option FieldType} {nL : Nat} {ad : Nat → Nat} {D : va_G} {c4 : am_T4} {Q : State → Prop} {res : Option Value × am_M} {K : am_K} {C : am_H}
theorem am_Wd_at (X : am_Cx p s m args meth c own cc rt nL ad D c4) {M : am_M} {H : Heap} {locs : List Loc} (hP : va_P D vwCl (am_w ad c4 M) H) (hS : va_S (am_A ad) s.heap H locs) (U : State) (hU : U.heap = H) (hW : s.WarmedH U.vm) : am_Wd ad D c4 M U := by
  obtain ⟨hx, hb, hr, hml, hown, hts, hlk, hKn, hnw, hinj, hz1, ht1, hz2, ht2⟩ := X
  refine ⟨by rw [hU]; exact hP, va_K.moved hW.alike hKn, am_NW_warm hW hnw, va_Z.moved hW.alike ?_, va_T.moved hW.alike ?_, va_Z.moved hW.alike ?_, va_T.moved hW.alike ?_⟩
  · rw [hU]; exact va_Z.kept hz1 hS.2.1
  · rw [hU]; exact va_T.kept ht1 hS.2.1
  · rw [hU]; exact va_Z.kept hz2 hS.2.1
  · rw [hU]; exact va_T.kept ht2 hS.2.1
theorem am_callg {Qa : State → Outcome → State → Prop} {free : Addr → Prop} {H : Heap} {locs : List Loc} {pc : Nat} {lsm : Array Slot} {st0 rest : List Value} (hr : va_Run p l e R s m args below meth c H locs 0 0 0 0 (F0 m pc lsm st0) rest Qa free)
    (kk : ∀ (v : Option Value) (st₀ t : State) (H1 : Heap) (L : List Loc), st₀.heap = H → t.heap = H1 → Qa st₀ (.returned v) t → (∀ q ∈ L, free q.base) → W p l e R s m args below meth c H1 (locs ++ L) 0 0 Q (F0 m (pc + 3) lsm (v.toList ++ rest))) : W p l e R s m args below meth c H locs 0 0 Q (F0 m pc lsm st0) := by
  intro T hT X
  obtain ⟨v, st₀, t, T', L, h0, X', hL, e1, e2, hq, st⟩ := hr T hT X
  obtain ⟨t2, a1, b1⟩ := kk v st₀ t T'.heap L h0 e1.symm hq hL T' rfl X'
  exact ⟨t2, st t2 a1, b1⟩
theorem am_aft (hK : ∀ pc ls st M, K pc ls st M = some res → am_Tg p l e R s m args below meth c nL ad D c4 Q pc ls st M) {r : Option Value × am_M} {pc : Nat} {ls rest : List Value} (h : K (pc + 3) ls (r.1.toList ++ rest) r.2 = some res) {H : Heap} {locs : List Loc} {lsm : Array Slot} {st0 : List Value} {a : Array Value} (hl : am_lR ad lsm nL ls) (hS : va_S (am_A ad) s.heap H locs)
    (hr : va_Run p l e R s m args below meth c H locs 0 0 0 0 (F0 m pc lsm st0) (rest.map (am_cv ad)) (am_Qc ad D c4 r a) (am_A ad)) : W p l e R s m args below meth c H locs 0 0 Q (F0 m pc lsm st0) := by
  refine am_callg hr (fun v st₀ t H1 L h0 ht ⟨⟨hv, hP1⟩, hz, hk⟩ hL => ?_)
  have hv : v = r.1.map (am_cv ad) := by injection hv
  subst hv
  have e1 : (r.1.map (am_cv ad)).toList ++ rest.map (am_cv ad) = (r.1.toList ++ rest).map (am_cv ad) := by cases r.1 <;> simp
  rw [e1]
  rw [h0] at hz hk
  refine hK _ _ _ _ h H1 (locs ++ L) lsm hl (ht ▸ hP1) ⟨Nat.le_trans hS.1 (ht ▸ hz), fun q h1 h2 => ?_, fun q hq => ?_⟩
  · rw [← ht, hk q (Nat.lt_of_lt_of_le h1 hS.1) h2]
    exact hS.2.1 q h1 h2
  · rcases List.mem_append.mp hq with h | h
    · exact hS.2.2 q h
    · exact hL q h
end AMS4
section AMSU
variable {p : Program} {l : Launch} {e : Env} {R : Room} {s : State} {m : MethodId} {args : Array Value} {below : List Frame} {meth : Method} {c : Code}
/-- super.m(..), the method standing in the superclass or in the one above it -/
theorem am_callSU {T : State} {locs : List Loc} {cells slots : Nat} (X : Stand p l e R s m args below meth c T locs cells slots) (hexec : p.tables.exec = Jvm.exec) {own : String} {index : Nat} {x y : MethodName} {bytes : ByteArray} {maxL : Nat} {ret : Option FieldType}
    (hxy : y = ⟨y.cls, x.name, x.desc⟩) (hup : x.cls = y.cls ∨ (Jvm.Cond.superclass x.cls y.cls).before args s = true)
    (hown : s.vm.findClass own = some m.cls) (hlink : (Jvm.Cond.methodLink own index x).before args s = true) (hsame : (Jvm.Cond.sameMethod x.cls y.cls x.name x.desc).before args s = true) (hsup : (Jvm.Cond.superclass own x.cls).before args s = true)
    (hinst : (Jvm.Cond.instanceMethod y).before args s = true) (hcode : (Jvm.Cond.code y bytes maxL ret).before args s = true) (hno : x.name ≠ "<init>")
    {W : Nat} {Pre : Pt → Array Value → Prop} {Post : Pt → Array Value → Option Value → Pt → Prop} (hK : Back l R p e below s args y 3 W Pre Post)
    {b : Addr} {cellB : Cell} {kB : Class} (hcell : T.heap[b]? = some cellB) (hobj : cellB.vm.isStatics = false) (hkB : s.vm.classes[cellB.cls]? = some kB)
    {g : JFrame} (hg : g.method = m) (hsize : g.locals.size = c.maxLocals) {argsL rest : List Value} (hlen : ∀ sig, parseMethodDescriptor y.desc = some sig → argsL.length = sig.parameters.length)
    (hstack : g.stack = argsL.reverse ++ .ref b :: rest) (hW : 2 * g.monitorRoom + (rest.map fun v => v.category).sum ≤ W) (hdg : decode c.code g.pc = .ok (.invokespecial index, 3))
    (hpre : ∀ vm₁, s.WarmedH vm₁ → Pre ⟨T.setVm vm₁, locs, cells, slots⟩ (Value.ref b :: argsL).toArray) :
    ∃ (v : Option Value) (vm₁ : Vm) (B : Pt), s.WarmedH vm₁ ∧ Stand p l e R s m args below meth c B.U B.locs B.cells B.slots ∧ Post ⟨T.setVm vm₁, locs, cells, slots⟩ (Value.ref b :: argsL).toArray v B ∧
      ∀ target, Steps p.tables e below (B.U.setTop { g with pc := g.pc + 3, stack := v.toList ++ rest }) target → Steps p.tables e below (T.setTop g) target := by
  obtain ⟨mk, methM, hnamed, hmethM, hstM, habM⟩ := Cond.instanceMethod_spec hinst
  obtain ⟨methM', cM, hmethM', -, -, -, -, -, -, hsigM⟩ := Cond.code_spec hnamed hcode
  cases hmethM.symm.trans hmethM'
  obtain ⟨ps, dk, kp, hps, hdk, hkp, hsuper, -, -, hnid⟩ := Cond.superclass_spec hown hsup
  have hn : s.methodNamed? ⟨y.cls, x.name, x.desc⟩ = some mk := by rw [← hxy]; exact hnamed
  have hym : s.vm.findClass y.cls = some mk.cls := findClass_of_methodNamed hnamed
  have hsub : s.vm.isSubclass ps mk.cls = true := by
    rcases hup with h | h
    · rw [h] at hps
      have hpm : ps = mk.cls := Option.some.inj (hps.symm.trans hym)
      rw [hpm]
      simp [Vm.isSubclass, Vm.isSubclassAux]
    · obtain ⟨p2, k2, kp2, g1, g2, g3, g4, -, -, -⟩ := Cond.superclass_spec hps h
      have hpm : p2 = mk.cls := Option.some.inj (g1.symm.trans hym)
      subst hpm
      have hlt := (Array.getElem?_eq_some_iff.mp g2).1
      obtain ⟨n, hn⟩ : ∃ n, s.vm.classes.size = n + 1 := ⟨s.vm.classes.size - 1, by omega⟩
      simp [Vm.isSubclass, hn, Vm.isSubclassAux, g2, g4]
  obtain ⟨vm₁, X₁, hstep₁⟩ := X.invokespecialUp hexec hown hlink hsame hn hmethM hstM habM hno hdk hnid hps hsuper hsub (a := b) (cell := cellB) hcell
    (fun z h => by rw [h] at hobj; cases hobj) hkB (g := g) hg (argsL := argsL) (rest := rest) (hlen _ hsigM) hstack hdg
  obtain ⟨v, B, X', hpost, hsteps⟩ := hK m meth c ⟨T.setVm vm₁, locs, cells, slots⟩ { g with stack := rest } (.invokespecial index) mk (Value.ref b :: argsL).toArray X₁ hg hsize hdg hW (X₁.named hnamed) (hpre vm₁ X₁.warmed)
  exact ⟨v, vm₁, B, X₁.warmed, X', hpost, fun target h => hstep₁ _ (by rw [doInvoke_state]; exact hsteps.trans h)⟩
variable {H : Heap} {locs : List Loc} {cells slots : Nat}
theorem am_runSU {x y : MethodName} {bytes cc : ByteArray} {maxL nL mc ms index : Nat} {ret : Option FieldType} {ws ws' : List Jvm.Cond} {rm : Room} {Pc : Array Value → State → Prop} {Qc : Array Value → State → Outcome → State → Prop} {free : Addr → Prop} {Ts : List Jvm.Cond} {own C : String} {cC : ClassId} {b : Addr} {As rest : List Value} {g : JFrame}
    (hat : ClassAt s C cC) (S : CallFix p m c cc nL s args Ts own) (hM : Met l y ws rm Pc Qc mc ms free) (hG : GoodIn Ts ws) (hw : ws = Jvm.Cond.code y bytes maxL ret :: ws') (hrc : rm.cells = mc) (hrs : rm.slots = ms) (hR : rm.frames + 1 ≤ R.frames ∧ 8 + (maxL + 11) + rm.locals ≤ R.locals)
    (hxy : y = ⟨y.cls, x.name, x.desc⟩) (hup : x.cls = y.cls ∨ (Jvm.Cond.superclass x.cls y.cls).before args s = true) (hl1 : (Jvm.Cond.methodLink own index x).before args s = true) (hl2 : (Jvm.Cond.sameMethod x.cls y.cls x.name x.desc).before args s = true) (hl3 : (Jvm.Cond.superclass own x.cls).before args s = true) (hl4 : (Jvm.Cond.instanceMethod y).before args s = true) (hini : (Jvm.Cond.initialized y.cls).before args s = true) (hno : x.name ≠ "<init>") (hlen : (parseMethodDescriptor y.desc).map (fun d => d.parameters.length) = some As.length) (hp : PreV s H C b Pc As)
    (hg : g.method = m) (hsize : g.locals.size = nL) (hstack : g.stack = As.reverse ++ .ref b :: rest) (hW : 2 * g.monitorRoom + (rest.map fun v => v.category).sum ≤ 8) (hdg : decode cc g.pc = .ok (.invokespecial index, 3)) (hf : cells + mc ≤ R.cells ∧ slots + ms ≤ R.slots) :
    va_Run p l e R s m args below meth c H locs cells slots mc ms g rest (Qc (Value.ref b :: As).toArray) (free) := by
  have ht := S.2.2.2.2
  have hc : Jvm.Cond.code y bytes maxL ret ∈ ws := by rw [hw]; exact List.mem_cons_self
  have hcode := ht _ (hG _ hc).1
  have hK : Back l R p e below s args y 3 8 (PreOf R mc ms Pc) (PostOf Qc mc ms free) := back_of (bytes := bytes) (maxL := maxL) (ret := ret) hM hp.1 hrc hrs hR.1 hR.2 (pay_in ht hG) hc (fun a' U hW => word_at hW (Or.inl (by first | rfl | simp [Cond.onTables, Cond.keeps, Cond.steady])) hini)
  obtain ⟨hx, hb, hml, ho, -⟩ := S
  obtain ⟨-, ⟨cellB, hcB, hoB, hclB⟩, hPc⟩ := hp
  obtain ⟨hfc, kB, hkB, -⟩ := hat
  cases hfc.symm.trans hclB
  intro T hT X
  obtain ⟨v, vm₁, ⟨U', l2, c2, s2⟩, hW₁, X', ⟨g', mk, t, L, e1, e2, hq, h1, hL, h2, h3⟩, st⟩ := am_callSU X hx (bytes := bytes) (maxL := maxL) (ret := ret) hxy hup ho hl1 hl2 hl3 hl4 hcode hno hK (by rw [hT]; exact hcB) hoB hkB hg (hsize.trans hml.symm) (argsL := As) (rest := rest) (fun sig h => by rw [h] at hlen; exact (Option.some.inj hlen).symm) hstack hW (by rw [hb]; exact hdg)
    (fun vm₁ hW₁ => ⟨hf.1, hf.2, hPc (T.setVm vm₁) hT hW₁⟩)
  dsimp only [Pt.U, Pt.locs, Pt.cells, Pt.slots] at X' e1 e2 h1 h2 h3 st
  subst h1; subst h2; subst h3
  exact ⟨v, (T.setVm vm₁).calling g' mk (Value.ref b :: As).toArray, t, U', L, hT, X', hL, e1, e2, hq, st⟩
end AMSU
