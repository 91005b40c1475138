noncomputable def ck_e (own : String) (b : ByteArray) (pc : Nat) (e : am_E) : Bool := decide (decode b pc = .ok (e.2.1, e.2.2.1)) && (match e.1 with
  | 0 => ck_0 own e.2.1 e.2.2.1 e.2.2.2.1 e.2.2.2.2
  | 1 => ck_1 e.2.1 e.2.2.1
  | 2 => ck_2 e.2.1 pc e.2.2.1 e.2.2.2.1
  | 3 => ck_3 own e.2.1 e.2.2.1 e.2.2.2.1 e.2.2.2.2
  | 4 => ck_4 own e.2.1 e.2.2.1 e.2.2.2.1 e.2.2.2.2
  | 5 => Nat.beq e.2.2.1 1
  | _ => false)
noncomputable def ck_m (i : Nat) : Bool := (List.range (am_len i)).all (fun pc => match am_tb i pc with
  | none => true
  | some e => ck_e (am_Y i).cls (am_C i) pc e)
section AMS6
variable {p : Program} {l : Launch} {e : Env} {R : Room} {s : State} {m : MethodId} {args : Array Value} {below : List Frame} {meth : Method} {c : Code} {own : String} {cc : ByteArray} {rt : Option FieldType} {nL : Nat} {ad : Nat → Nat} {D : va_G} {c4 : am_T4} {res : Option Value × am_M}
theorem am_snd5 {i : Instr} {len : Nat} {pc : Nat} {ls st : List Value} {M : am_M} (X : am_Cx p s m args meth c own cc rt nL ad D c4) (hd : decode cc pc = .ok (i, len)) (hc : Nat.beq len 1 = true) (h : am_s5 i rt st M = some res) : am_Tg p l e R s m args below meth c nL ad D c4 (MQ below (am_Qc ad D c4 res) args s 0 0 (am_A ad)) pc ls st M := by
  obtain ⟨hx, hb, hr, hml, hown, hts, hlk, hKn, hnw, hinj, hz1, ht1, hz2, ht2⟩ := X
  intro H locs lsm hl hP hS
  have hc := Nat.eq_of_beq_eq_true hc
  subst hc
  have hq : ∀ (v : Option Value), res = (v, M) → ∀ t : State, t.heap = H → s.WarmedH t.vm → am_Qc ad D c4 res args s (.returned (v.map (am_cv ad))) t := fun v hv t ht _ => by
    subst hv
    exact ⟨⟨rfl, by rw [ht]; exact hP⟩, hS.F ht⟩
  unfold am_s5 at h
  split at h
  · split at h
    · have h := (Option.some.inj h).symm
      exact W.iret hx hb hr (hq (some (.int _)) h) hS.2.2 hd hlk
    · split at h <;> first | cases h | skip
      rename_i hz
      exact W.zret hx hb hr (by rcases hz with rfl | rfl <;> rfl) (hq (some (.int _)) rfl) hS.2.2 hd hlk
    · cases h
  · split at h
    · have h := (Option.some.inj h).symm
      exact W.aret hx hb hr (Or.inl ⟨_, rfl⟩) (Or.inr ⟨_, rfl⟩) (hq (some (.ref _)) h) hS.2.2 hd hlk
    · cases h
  · split at h
    · have h := (Option.some.inj h).symm
      exact W.vret hx hb hr (hq none h) hS.2.2 hd hlk
    · cases h
  · cases h
theorem am_sndR {d : Nat} {C : am_H} (HC : ∀ i as M r, C i as M = some r → am_Met l d ad D c4 i as M r) (X : am_Cx p s m args meth c own cc rt nL ad D c4) {tb : Nat → Option am_E} (htb : ∀ pc e, tb pc = some e → ck_e own cc pc e = true) : ∀ (n pc : Nat) (ls st : List Value) (M : am_M), am_run C rt tb n pc ls st M = some res → am_Tg p l e (am_rm (d + 1)) s m args below meth c nL ad D c4 (MQ below (am_Qc ad D c4 res) args s 0 0 (am_A ad)) pc ls st M := by
  intro n
  induction n with
  | zero => intro pc ls st M h; cases h
  | succ n ih =>
    intro pc ls st M h
    change am_stp C (am_run C rt tb n) rt (tb pc) pc ls st M = some res at h
    unfold am_stp at h
    split at h
    · cases h
    · rename_i g i len rs ws hpc
      have hck := htb _ _ hpc
      simp only [ck_e, Bool.and_eq_true, decide_eq_true_eq] at hck
      obtain ⟨hd, hck⟩ := hck
      split at h
      · exact am_snd0 X ih hd hck h
      · exact am_snd1 X ih hd hck h
      · exact am_snd2 X ih hd hck h
      · exact am_snd3 X ih hd hck h
      · exact am_snd4 HC X ih hd hck h
      · exact am_snd5 X hd hck h
      · cases h
end AMS6
theorem am_soundC (hck : ∀ i, i < am_N → ck_m i = true) (l : Launch) (ad : Nat → Nat) (D : va_G) (c4 : am_T4) (hinj : ∀ i j, i < am_NC → j < am_NC → ad i = ad j → i = j) : ∀ (d i : Nat) (as : List Value) (M : am_M) (r), am_call d i as M = some r → am_Met l d ad D c4 i as M r := by
  intro d
  induction d with
  | zero => intro i as M r h; cases h
  | succ d ih =>
    intro i as M r h
    change (if _ then _ else _) = some r at h
    split at h
    · rename_i hcond
      obtain ⟨h1, h2⟩ := hcond
      have hi : i < am_N := Nat.blt_eq.mp h1
      obtain ⟨n, hn⟩ := (am_lim_iff _ _ _ _ _ _ _ _).mp h
      refine Met.ofW (cc := am_C i) (maxL := am_L i) (ret := am_R i) (am_codes i hi).2.2.1 rfl ?_
      intro p e s m args below meth c s₁ B hml hv
      obtain ⟨rfl, hP, hK, hN, z1, t1, z2, t2⟩ := hv
      have X : am_Cx p s m (as.map (am_cv ad)).toArray meth c (am_Y i).cls (am_C i) (am_R i) (am_L i) ad D c4 := ⟨B.exec, B.bytes, B.returns, hml, findClass_of_methodNamed B.named, fun w hw => atoms_spec (ws := am_wsA i) B.pre w (List.mem_cons_of_mem _ hw), B.notSynchronized, hK, hN, hinj, z1, t1, z2, t2⟩
      rw [lg_entry_eq]
      have htb : ∀ pc e, am_tx i pc = some e → ck_e (am_Y i).cls (am_C i) pc e = true := by
        intro pc e he
        unfold am_tx at he
        cases hb : Nat.blt pc (am_len i) with
        | false => rw [hb] at he; cases he
        | true =>
          rw [hb, cond_true] at he
          have h3 := List.all_eq_true.mp (hck i hi) pc (List.mem_range.mpr (Nat.blt_eq.mp hb))
          rw [he] at h3
          exact h3
      exact am_sndR ih X htb n 0 _ [] M hn s.heap [] _ (am_entry ad as h2) hP va_S.rf
    · cases h
