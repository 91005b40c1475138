def wq (i : Nat) (w : Jvm.Cond) : Bool := decide (lw_tbl[i]? = some w)
theorem wq_in {i : Nat} {w : Jvm.Cond} (h : wq i w = true) (hg : goodWord w = true) : w ∈ am_ws := am_word (of_decide_eq_true h) hg
/-- the class of a number -/
def am_cn (ci : Nat) : String := match vwCl[ci]? with
  | some q => q.1
  | none => ""
noncomputable def ck_v1 (own : String) (idx n ci mid way w1 w2 w3 w4 w5 w6 mo cx : Nat) : Bool :=
  Nat.blt mid am_N && (decide (ci < 13) && (decide ((parseMethodDescriptor (am_Y mid).desc).map (fun d => d.parameters.length) = some n) && (wq w4 (.instanceMethod (am_Y mid)) && (match way with
  | 0 => wq w1 (.methodLink own idx (am_Y mid)) && (wq w3 (.selects (am_cn ci) (am_Y mid) (am_Y mid)) && (wq w5 (.initialized (am_cn ci)) && decide ((am_Y mid).cls = am_cn ci)))
  | 1 => wq w1 (.methodLink own idx ⟨am_cn cx, (am_Y mid).name, (am_Y mid).desc⟩) && (wq w2 (.sameMethod (am_cn cx) (am_Y mid).cls (am_Y mid).name (am_Y mid).desc) && (wq w3 (.selects (am_cn ci) ⟨am_cn cx, (am_Y mid).name, (am_Y mid).desc⟩ (am_Y mid)) && wq w5 (.initialized (am_Y mid).cls)))
  | _ => wq w1 (.methodLink own idx ⟨am_cn cx, (am_Y mid).name, (am_Y mid).desc⟩) && (wq w2 (.sameMethod (am_cn cx) (am_Y mo).cls (am_Y mid).name (am_Y mid).desc) && (wq w3 (.selects (am_cn ci) ⟨am_cn cx, (am_Y mid).name, (am_Y mid).desc⟩ (am_Y mid)) && (wq w5 (.initialized (am_Y mid).cls) && (wq w6 (.instanceMethod ⟨(am_Y mo).cls, (am_Y mid).name, (am_Y mid).desc⟩) && (Nat.blt mo am_N && decide ((am_Y mo).name = (am_Y mid).name ∧ (am_Y mo).desc = (am_Y mid).desc))))))))))
noncomputable def ck_v (own : String) (idx n : Nat) : List Int → List Nat → Bool
  | [], [] => true
  | ci :: mid :: ps, way :: w1 :: w2 :: w3 :: w4 :: w5 :: w6 :: mo :: cx :: ws => ck_v1 own idx n ci.toNat mid.toNat way w1 w2 w3 w4 w5 w6 mo cx && ck_v own idx n ps ws
  | _, _ => false
theorem ck_v_lk {own : String} {idx n ci mid : Nat} : ∀ (ps : List Int) (ws : List Nat), ck_v own idx n ps ws = true → am_lk ci ps = some mid → ∃ way w1 w2 w3 w4 w5 w6 mo cx, ck_v1 own idx n ci mid way w1 w2 w3 w4 w5 w6 mo cx = true
  | [], _, _, h => by cases h
  | [_], _, _, h => by cases h
  | c :: m :: ps, ws, hc, h => by
    match ws, hc with
    | way :: w1 :: w2 :: w3 :: w4 :: w5 :: w6 :: mo :: cx :: ws, hc =>
      simp only [ck_v, Bool.and_eq_true] at hc
      unfold am_lk at h
      by_cases e : c.toNat = ci
      · rw [if_pos e] at h
        cases h
        subst e
        exact ⟨_, _, _, _, _, _, _, _, _, hc.1⟩
      · rw [if_neg e] at h
        exact ck_v_lk ps ws hc.2 h
noncomputable def ck_4 (own : String) (i : Instr) (len : Nat) (rs : List Int) (ws : List Nat) : Bool := Nat.beq len 3 && (match i with
  | .invokestatic idx => match rs with
    | [0, n, mid] => Nat.blt mid.toNat am_N && (wq (ws.getD 0 0) (.methodLink own idx (am_Y mid.toNat)) && (wq (ws.getD 1 0) (.static (am_Y mid.toNat)) && (wq (ws.getD 2 0) (.initialized (am_Y mid.toNat).cls) && decide ((parseMethodDescriptor (am_Y mid.toNat).desc).map (fun d => d.parameters.length) = some n.toNat))))
    | [1] => wq (ws.getD 0 0) (.methodLink own idx Lib.Math.max.name)
    | [2] => wq (ws.getD 0 0) (.methodLink own idx Lib.Math.min.name)
    | [3] => wq (ws.getD 0 0) (.methodLink own idx arraycopyName)
    | _ => false
  | .invokevirtual idx => match rs with
    | n :: ps => ck_v own idx n.toNat ps ws
    | _ => false
  | .invokespecial idx => match rs, ws with
    | [n, mid, k], [w0, w1, w2, w3, w4, w5, cx] => Nat.blt mid.toNat am_N && (decide ((parseMethodDescriptor (am_Y mid.toNat).desc).map (fun d => d.parameters.length) = some n.toNat) && (wq w0 (.methodLink own idx ⟨am_cn cx, (am_Y mid.toNat).name, (am_Y mid.toNat).desc⟩) && (wq w1 (.sameMethod (am_cn cx) (am_Y mid.toNat).cls (am_Y mid.toNat).name (am_Y mid.toNat).desc) && (wq w2 (.superclass own (am_cn cx)) && (wq w3 (.instanceMethod (am_Y mid.toNat)) && (wq w4 (.initialized (am_Y mid.toNat).cls) && (decide ((am_Y mid.toNat).name ≠ "<init>") && (decide (am_cn cx = (am_Y mid.toNat).cls) || wq w5 (.superclass (am_cn cx) (am_Y mid.toNat).cls)))))))))
    | _, _ => false
  | _ => false)
theorem am_vw13 : ∀ ci, ci < 13 → ∃ q, vwCl[ci]? = some q ∧ q.1 = am_cn ci := by
  intro ci h
  have e : vwCl.length = 13 := rfl
  refine ⟨vwCl[ci]'(by rw [e]; exact h), List.getElem?_eq_getElem _, ?_⟩
  unfold am_cn
  rw [List.getElem?_eq_getElem (by rw [e]; exact h)]
section AMS5
variable {p : Program} {l : Launch} {e : Env} {s : State} {m : MethodId} {args : Array Value} {below : List Frame} {meth : Method} {c : Code} {own : String} {cc : ByteArray} {rt : Option FieldType} {nL : Nat} {ad : Nat → Nat} {D : va_G} {c4 : am_T4} {Q : State → Prop} {res : Option Value × am_M} {K : am_K} {C : am_H} {d : Nat}
theorem am_take {st : List Value} {n : Nat} (ad : Nat → Nat) (h : n ≤ st.length) : st.map (am_cv ad) = ((st.take n).reverse.map (am_cv ad)).reverse ++ (st.drop n).map (am_cv ad) ∧ ((st.take n).reverse.map (am_cv ad)).length = n := by
  refine ⟨?_, by simp; omega⟩
  rw [List.map_reverse, List.reverse_reverse, ← List.map_append, List.take_append_drop]
theorem am_snd4 (HC : ∀ i as M r, C i as M = some r → am_Met l d ad D c4 i as M r) {i : Instr} {len : Nat} {rs : List Int} {ws : List Nat} {pc : Nat} {ls st : List Value} {M : am_M} (X : am_Cx p s m args meth c own cc rt nL ad D c4) (hK : ∀ pc ls st M, K pc ls st M = some res → am_Tg p l e (am_rm (d + 1)) s m args below meth c nL ad D c4 Q pc ls st M) (hd : decode cc pc = .ok (i, len)) (hc : ck_4 own i len rs ws = true) (h : am_s4 C K i rs pc ls st M = some res) : am_Tg p l e (am_rm (d + 1)) s m args below meth c nL ad D c4 Q pc ls st M := by
  have XX := X
  obtain ⟨hx, hb, hr, hml, hown, hts, hlk, hKn, hnw, hinj, hz1, ht1, hz2, ht2⟩ := X
  intro H locs lsm hl hP hS
  have hD : va_D (am_A ad) (am_w ad c4 M) := am_w_D hinj c4 M
  have hsz : lsm.size = nL := hl.2.1
  have hroom : ∀ i, i < am_N → (am_rm d).frames + 1 ≤ (am_rm (d + 1)).frames ∧ 8 + (am_L i + 11) + (am_rm d).locals ≤ (am_rm (d + 1)).locals := fun i hi => by
    have := (am_codes i hi).2.1
    exact ⟨Nat.le_refl _, by show 8 + (am_L i + 11) + (40 * d + 40) ≤ 40 * (d + 1) + 40; omega⟩
  have hwd : ∀ U : State, U.heap = H → s.WarmedH U.vm → am_Wd ad D c4 M U := fun U hU hW => am_Wd_at XX hP hS U hU hW
  simp only [ck_4, Bool.and_eq_true] at hc
  obtain ⟨hc1, hc⟩ := hc
  have hc1 := Nat.eq_of_beq_eq_true hc1
  subst hc1
  unfold am_s4 at h
  split at h
  · split at h
    · -- a static method
      rename_i idx _ n mid
      simp only [Bool.and_eq_true, decide_eq_true_eq] at hc
      obtain ⟨c1, c2, c3, c4', c5⟩ := hc
      have hmid : mid.toNat < am_N := Nat.blt_eq.mp c1
      split at h <;> first | cases h | skip
      rename_i hcond
      obtain ⟨r, hC, h⟩ := Option.bind_eq_some_iff.mp h
      have hM := HC _ _ _ _ hC
      obtain ⟨e1, e2⟩ := am_take ad hcond.1 (st := st)
      rw [e1]
      have cd := am_codes _ hmid
      refine am_aft hK h hl hS (va_runS (Ts := am_ws) ⟨hx, hb, hml, hown, hts⟩ hM (va_cwS n.toNat hts (am_goodin ?_) rfl rfl rfl ⟨cd.2.2.2.1, cd.2.2.2.2, c5⟩ (hroom _ hmid)) ⟨am_blind, fun U hU hW => ⟨rfl, hwd U hU hW⟩⟩ rfl e2 hsz rfl (lv_room (by rw [am_cat_map]; exact hcond.2)) hd ⟨Nat.le_refl _, Nat.le_refl _⟩)
      intro w hw
      unfold va_wsS at hw
      rcases List.mem_append.mp hw with hw | hw
      · simp only [List.mem_cons, List.not_mem_nil, or_false] at hw
        rcases hw with rfl | rfl | rfl
        · exact wq_in c2 rfl
        · exact wq_in c3 rfl
        · exact wq_in c4' rfl
      · exact am_wsA_in hmid w hw
    · -- max
      split at h <;> first | cases h | skip
      split at h <;> first | cases h | skip
      rename_i hcond
      obtain ⟨m1, m2, m3, m4, m5, m6, m7, m8⟩ := am_max
      exact va_mmax hx hb (hml.trans hsz.symm) hown (hts _ (wq_in hc rfl)) (hts _ (am_has m1 rfl)) (hts _ (am_has m5 rfl)) (hts _ (am_has m2 rfl)) (by show 1 ≤ d + 1 + 1; omega) (by rw [am_cat_map]; show _ ≤ 40 * (d + 1) + 40; omega) (Nat.le_refl _) (Nat.le_refl _) hd (hK _ _ _ _ h H locs lsm hl hP hS)
    · -- min
      split at h <;> first | cases h | skip
      split at h <;> first | cases h | skip
      rename_i hcond
      obtain ⟨m1, m2, m3, m4, m5, m6, m7, m8⟩ := am_max
      exact va_mmin hx hb (hml.trans hsz.symm) hown (hts _ (wq_in hc rfl)) (hts _ (am_has m3 rfl)) (hts _ (am_has m5 rfl)) (hts _ (am_has m4 rfl)) (by show 1 ≤ d + 1 + 1; omega) (by rw [am_cat_map]; show _ ≤ 40 * (d + 1) + 40; omega) (Nat.le_refl _) (Nat.le_refl _) hd (hK _ _ _ _ h H locs lsm hl hP hS)
    · -- arraycopy
      split at h <;> first | cases h | skip
      rename_i _ n dp a sp b r
      split at h <;> first | cases h | skip
      rename_i _ _ n0 f0 n1 f1 hs0 hs1
      split at h <;> first | cases h | skip
      rename_i hcond
      obtain ⟨k1, k2, k3, k4, k5, k6⟩ := hcond
      obtain ⟨m1, m2, m3, m4, m5, m6, m7, m8⟩ := am_max
      have hb0 := am_shp_nc hs0 (by decide)
      have ha0 := am_shp_nc hs1 (by decide)
      have he0 : (am_w ad c4 M)[b]? = some (ad b, .inl (c4.1, n0, .inl (M b))) := by rw [am_w_at hb0, am_cl_1 hs0]
      have he1 : (am_w ad c4 M)[a]? = some (ad a, .inl (c4.1, n1, .inl (M a))) := by rw [am_w_at ha0, am_cl_1 hs1]
      refine va_copyi hx hb (hml.trans hsz.symm) hown (hts _ (wq_in hc rfl)) (hts _ (am_has m6 rfl)) (hts _ (am_has m7 rfl)) (hts _ (am_has m8 rfl)) hKn hP hD hS b a 0 0 he0 he1 rfl rfl rfl k2 k3 k4 k5 k6 (fun i _ => rfl) (by show 1 ≤ d + 1 + 1; omega) (by rw [am_cat_map]; show _ + (7 + 11) ≤ 40 * (d + 1) + 40; omega) hd (fun H1 locs1 hP1 hD1 hS1 => ?_)
      rw [am_w_set (M' := am_setc M a (va_cpy (M b) (M a) sp.toNatClampNeg dp.toNatClampNeg n.toNatClampNeg)) ha0 (by rw [am_cl_1 hs1, am_setc_eq]) am_setc_ne] at hP1
      exact hK _ _ _ _ h H1 locs1 lsm hl hP1 hS1
    · cases h
  · -- a virtual call
    split at h <;> first | cases h | skip
    rename_i idx _ n ps
    split at h <;> first | cases h | skip
    rename_i _ t r hdrop
    split at h <;> first | cases h | skip
    rename_i _ ci fs hs
    split at h <;> first | cases h | skip
    rename_i mid hlkk
    split at h <;> first | cases h | skip
    rename_i hcond
    obtain ⟨rr, hC, h⟩ := Option.bind_eq_some_iff.mp h
    have hM := HC _ _ _ _ hC
    obtain ⟨e1, e2⟩ := am_take ad hcond.1 (st := st)
    rw [hdrop] at e1
    rw [e1]
    obtain ⟨way, w1, w2, w3, w4, w5, w6, mo, cx, hv⟩ := ck_v_lk ps ws hc hlkk
    simp only [ck_v1, Bool.and_eq_true, decide_eq_true_eq] at hv
    obtain ⟨v1, v2, v3, v4, v5⟩ := hv
    have hmid : mid < am_N := Nat.blt_eq.mp v1
    have cd := am_codes _ hmid
    have ht := am_shp_nc hs (by decide)
    have he : (am_w ad c4 M)[t]? = some (ad t, .inr (ci, am_fl ad M t)) := by rw [am_w_at ht, am_cl_0 hs]
    obtain ⟨q, hq, hqn⟩ := am_vw13 ci v2
    have hpv : PreV s H (am_cn ci) (ad t) (va_Pc (((Value.ref t) :: (st.take n.toNat).reverse).map (am_cv ad)) (am_Wd ad D c4 M)) ((st.take n.toNat).reverse.map (am_cv ad)) := ⟨am_blind, by rw [← hqn]; exact va_recv hKn hP hq he, fun U hU hW => ⟨rfl, hwd U hU hW⟩⟩
    have hcat := lv_room (pc := pc) (m := m) (ls := lsm) (rest := ((st.take n.toNat).reverse.map (am_cv ad)).reverse ++ (Value.ref t :: r).map (am_cv ad)) (st := r.map (am_cv ad)) (by rw [am_cat_map]; exact hcond.2)
    split at v5
    · simp only [Bool.and_eq_true, decide_eq_true_eq] at v5
      obtain ⟨g1, g2, g3, g4⟩ := v5
      refine am_aft hK h hl hS (va_runV (Ts := am_ws) ⟨hx, hb, hml, hown, hts⟩ hM (cwV n.toNat hts (am_goodin ?_) rfl rfl rfl ⟨g4, cd.2.2.2.1, cd.2.2.2.2, v3⟩ (hroom _ hmid)) hpv rfl e2 hsz rfl hcat hd ⟨Nat.le_refl _, Nat.le_refl _⟩)
      intro w hw
      unfold wsV at hw
      rcases List.mem_append.mp hw with hw | hw
      · simp only [List.mem_cons, List.not_mem_nil, or_false] at hw
        rcases hw with rfl | rfl | rfl | rfl
        · exact wq_in g1 rfl
        · exact wq_in v4 rfl
        · exact wq_in g2 rfl
        · exact wq_in g3 rfl
      · exact am_wsA_in hmid w hw
    · simp only [Bool.and_eq_true, decide_eq_true_eq] at v5
      obtain ⟨g1, g2, g3, g4⟩ := v5
      refine am_aft hK h hl hS (va_runU (Ts := am_ws) ⟨hx, hb, hml, hown, hts⟩ hM (va_cwU (owner := (am_Y mid).cls) (x := ⟨am_cn cx, (am_Y mid).name, (am_Y mid).desc⟩) n.toNat hts (am_goodin ?_) rfl rfl rfl rfl ⟨cd.2.2.2.1, cd.2.2.2.2, v3⟩ (hroom _ hmid)) hpv rfl e2 hsz rfl hcat hd ⟨Nat.le_refl _, Nat.le_refl _⟩)
      intro w hw
      unfold va_wsU at hw
      rcases List.mem_append.mp hw with hw | hw
      · simp only [List.mem_cons, List.not_mem_nil, or_false] at hw
        rcases hw with rfl | rfl | rfl | rfl | rfl
        · exact wq_in g1 rfl
        · exact wq_in g2 rfl
        · exact wq_in g3 rfl
        · exact wq_in v4 rfl
        · exact wq_in g4 rfl
      · exact am_wsA_in hmid w hw
    · simp only [Bool.and_eq_true, decide_eq_true_eq] at v5
      obtain ⟨g1, g2, g3, g4, g5, g6, g7, g8⟩ := v5
      have hmo : mo < am_N := Nat.blt_eq.mp g6
      have cdo := am_codes _ hmo
      have hcode0 : Jvm.Cond.code ⟨(am_Y mo).cls, (am_Y mid).name, (am_Y mid).desc⟩ (am_C mo) (am_L mo) (am_R mo) ∈ am_ws := by
        have := am_word cdo.1 rfl
        rw [← g7, ← g8]
        exact this
      refine am_aft hK h hl hS (va_runU (Ts := am_ws) ⟨hx, hb, hml, hown, hts⟩ hM (va_cwO (owner := (am_Y mo).cls) (x := ⟨am_cn cx, (am_Y mid).name, (am_Y mid).desc⟩) n.toNat hts (am_goodin ?_) rfl rfl rfl hcode0 ⟨cdo.2.2.2.1, cdo.2.2.2.2, v3⟩ (hroom _ hmid)) hpv rfl e2 hsz rfl hcat hd ⟨Nat.le_refl _, Nat.le_refl _⟩)
      intro w hw
      unfold va_wsO at hw
      rcases List.mem_append.mp hw with hw | hw
      · simp only [List.mem_cons, List.not_mem_nil, or_false] at hw
        rcases hw with rfl | rfl | rfl | rfl | rfl | rfl
        · exact wq_in g1 rfl
        · exact wq_in g2 rfl
        · exact wq_in g5 rfl
        · exact wq_in g3 rfl
        · exact wq_in v4 rfl
        · exact wq_in g4 rfl
      · exact am_wsA_in hmid w hw
  · -- super
    split at h <;> first | cases h | skip
    rename_i idx _ n mid k
    split at h <;> first | cases h | skip
    rename_i _ t r hdrop
    split at h <;> first | cases h | skip
    rename_i _ ci fs hs
    split at h <;> first | cases h | skip
    rename_i hcond
    obtain ⟨rr, hC, h⟩ := Option.bind_eq_some_iff.mp h
    have hM := HC _ _ _ _ hC
    obtain ⟨e1, e2⟩ := am_take ad hcond.1 (st := st)
    rw [hdrop] at e1
    rw [e1]
    dsimp only at hc
    split at hc <;> first | cases hc | skip
    rename_i w0 w1 w2 w3 w4 w5 cx hrs
    cases hrs
    simp only [Bool.and_eq_true, Bool.or_eq_true, decide_eq_true_eq] at hc
    obtain ⟨c1, c2, c3, c4', c5, c6, c7, c8, c9⟩ := hc
    have hmid : mid.toNat < am_N := Nat.blt_eq.mp c1
    have cd := am_codes _ hmid
    have ht := am_shp_nc hs (by decide)
    have he : (am_w ad c4 M)[t]? = some (ad t, .inr (ci, am_fl ad M t)) := by rw [am_w_at ht, am_cl_0 hs]
    have hci : ∃ q, vwCl[ci]? = some q := by
      obtain ⟨rq, g1, g2⟩ := hP t _ he
      exact ⟨rq, g1⟩
    obtain ⟨q, hq⟩ := hci
    have hpv : PreV s H q.1 (ad t) (va_Pc (((Value.ref t) :: (st.take n.toNat).reverse).map (am_cv ad)) (am_Wd ad D c4 M)) ((st.take n.toNat).reverse.map (am_cv ad)) := ⟨am_blind, va_recv hKn hP hq he, fun U hU hW => ⟨rfl, hwd U hU hW⟩⟩
    have hcat := lv_room (pc := pc) (m := m) (ls := lsm) (rest := ((st.take n.toNat).reverse.map (am_cv ad)).reverse ++ (Value.ref t :: r).map (am_cv ad)) (st := r.map (am_cv ad)) (by rw [am_cat_map]; exact hcond.2)
    refine am_aft hK h hl hS (am_runSU (Ts := am_ws) (hKn.1 ci q hq).2 ⟨hx, hb, hml, hown, hts⟩ hM (am_goodin (am_wsA_in hmid)) rfl rfl rfl (hroom _ hmid) (x := ⟨am_cn cx, (am_Y mid.toNat).name, (am_Y mid.toNat).desc⟩) rfl ?_ (hts _ (wq_in c3 rfl)) (hts _ (wq_in c4' rfl)) (hts _ (wq_in c5 rfl)) (hts _ (wq_in c6 rfl)) (hts _ (wq_in c7 rfl)) c8 (by rw [e2]; exact c2) hpv rfl hsz rfl hcat hd ⟨Nat.le_refl _, Nat.le_refl _⟩)
    rcases c9 with c9 | c9
    · exact Or.inl c9
    · exact Or.inr (hts _ (wq_in c9 rfl))
  · cases h
end AMS5
