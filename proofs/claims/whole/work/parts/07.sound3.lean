/-! fields and arrays -/
section AMA
variable {p : Program} {l : Launch} {e : Env} {R : Room} {s : State} {m : MethodId} {args : Array Value} {below : List Frame} {meth : Method} {c : Code} {H : Heap} {locs : List Loc} {cells slots : Nat} {Q : State → Prop}
variable {cc : ByteArray} {pc : Nat} {ls : Array Slot} {rest : List Value} {D : va_G} {cl : List vw_C} {a : Nat} {tys : List (ClassId × FieldType)} {ws : va_W}
/-- a row of an array of arrays of ints -/
theorem am_aldA (hexec : p.tables.exec = Jvm.exec) (hb : c.code = cc) (hK : va_K D cl tys s) (hP : va_P D cl ws H) (q0 t0 : Nat) {cA : ClassId} {n : Nat} {f : Nat → Option Nat} (ha : ws[q0]? = some (a, .inl (cA, n, .inr (.inr (.inr (.inr f)))))) (ht : tys[t0]? = some (cA, .array .int)) {i : Int32} (hin : vp_in i n) (hdg : decode cc pc = .ok (.aaload, 1))
    (kk : W p l e R s m args below meth c H locs cells slots Q (F0 m (pc + 1) ls (va_rf (f i.toNatClampNeg) :: rest))) : W p l e R s m args below meth c H locs cells slots Q (F0 m pc ls (.int i :: .ref a :: rest)) := by
  have hlt : i.toNatClampNeg < n := Nat.not_le.mp fun q => hin (Or.inr q)
  have hcell := hP q0 _ ha
  have hty := (hK.2 t0 _ ht).1 n (fun j => va_rf (f j))
  refine W.aald (v := va_rf (f i.toNatClampNeg)) (ty := .array .int) hexec hb hcell hty rfl (fun q => by cases q) ?_ ?_ rfl rfl hdg kk
  · show ¬ (i < 0 ∨ (arrV _ _ _).slots.size ≤ _)
    rw [arrV_size]; exact hin
  · show (arrV _ _ _).slots[_]? = _
    rw [arrV_read _ _ hlt]
end AMA
def ck_w (own : String) (idx : Nat) (q : vw_C) (k : Nat) (nest : Int) (w : Nat) : Bool := decide (k < q.2.2) && (if nest = 0 then decide (lw_tbl[w]? = some (Jvm.Cond.fieldLink own idx (q.2.1 k).1 (q.2.1 k).2.1 (q.2.1 k).2.2.1)) else decide (lw_tbl[w]? = some (Jvm.Cond.fieldLinkNest own idx (q.2.1 k).1 (q.2.1 k).2.1 (q.2.1 k).2.2.1 "ShelfNights")))
def ck_g (own : String) (idx : Nat) (n : String) (nest : Int) (w : Nat) : Bool := if nest = 0 then decide (lw_tbl[w]? = some (Jvm.Cond.fieldLink own idx "ShelfNights" n "[I")) else decide (lw_tbl[w]? = some (Jvm.Cond.fieldLinkNest own idx "ShelfNights" n "[I" "ShelfNights"))
def ck_3 (own : String) (i : Instr) (len : Nat) (rs : List Int) (ws : List Nat) : Bool := match i with
  | .getfield idx => match rs with
    | [ci, k, n, _] => match vwCl[ci.toNat]? with
      | some q => Nat.beq len 3 && ck_w own idx q k.toNat n (ws.headD 0)
      | none => false
    | _ => false
  | .putfield idx => match rs with
    | [ci, k, n, z] => match vwCl[ci.toNat]? with
      | some q => Nat.beq len 3 && (ck_w own idx q k.toNat n (ws.headD 0) && (!(q.2.1 k.toNat).2.2.2 && decide (parseFieldDescriptor (q.2.1 k.toNat).2.2.1 = some (if z = 0 then .int else .boolean))))
      | none => false
    | _ => false
  | .getstatic idx => match rs with
    | [a, n] => Nat.beq len 3 && ((decide (a = 1000) && ck_g own idx "KIND_ABOVE" n (ws.headD 0)) || (decide (a = 1001) && ck_g own idx "NAMES" n (ws.headD 0)))
    | _ => false
  | _ => Nat.beq len 1
theorem am_cl_0 {ad : Nat → Nat} {c4 : am_T4} {M : am_M} {a c : Nat} {fs : List Nat} (h : shp a = (0, c, fs)) : am_cl ad c4 M a = .inr (c, am_fl ad M a) := by simp [am_cl, h]
theorem am_cl_1 {ad : Nat → Nat} {c4 : am_T4} {M : am_M} {a c : Nat} {fs : List Nat} (h : shp a = (1, c, fs)) : am_cl ad c4 M a = .inl (c4.1, c, .inl (M a)) := by simp [am_cl, h]
theorem am_cl_2 {ad : Nat → Nat} {c4 : am_T4} {M : am_M} {a c : Nat} {fs : List Nat} (h : shp a = (2, c, fs)) : am_cl ad c4 M a = .inl (c4.2.1, c, .inl (M a)) := by simp [am_cl, h]
theorem am_cl_3 {ad : Nat → Nat} {c4 : am_T4} {M : am_M} {a c : Nat} {fs : List Nat} (h : shp a = (3, c, fs)) : am_cl ad c4 M a = .inl (c4.2.2.1, c, .inr (.inr (.inr (.inr (fun i => (fs[i]?).map ad))))) := by simp [am_cl, h]
theorem am_cl_4 {ad : Nat → Nat} {c4 : am_T4} {M : am_M} {a c : Nat} {fs : List Nat} (h : shp a = (4, c, fs)) : am_cl ad c4 M a = .inl (c4.2.2.2, c, .inr (.inr (.inr (.inr (fun i => (fs[i]?).map ad))))) := by simp [am_cl, h]
theorem am_fl_at {ad : Nat → Nat} {M : am_M} {a k f : Nat} (h : (shp a).2.2[k]? = some f) : (am_fl ad M a)[k]? = some (match f with | 0 => Value.int (M a k) | g + 1 => Value.ref (ad g)) := by
  cases f <;> simp [am_fl, List.getElem?_mapIdx, h]
theorem am_up_eq {M : am_M} {a i : Nat} {x : Int32} : am_up M a i x a = upd (M a) i x := am_setc_eq
theorem am_fl_up {ad : Nat → Nat} {M : am_M} {a k : Nat} {x : Int32} (h : (shp a).2.2[k]? = some 0) : am_fl ad (am_up M a k x) a = (am_fl ad M a).set k (.int x) := by
  apply List.ext_getElem?
  intro j
  by_cases e : j = k
  · subst e
    rw [am_fl_at h, List.getElem?_set_self (by unfold am_fl; rw [List.length_mapIdx]; exact (List.getElem?_eq_some_iff.mp h).1)]
    show some (Value.int (am_setc M a (upd (M a) j x) a j)) = _
    rw [am_setc_eq]
    simp [upd]
  · rw [List.getElem?_set_ne (fun q => e q.symm)]
    cases hj : (shp a).2.2[j]? with
    | none =>
      unfold am_fl
      rw [List.getElem?_mapIdx, List.getElem?_mapIdx, hj]
      rfl
    | some f =>
      rw [am_fl_at hj, am_fl_at hj]
      cases f with
      | zero =>
        show some (Value.int (am_setc M a (upd (M a) k x) a j)) = _
        rw [am_setc_eq]
        simp [upd, e]
      | succ g => rfl
theorem am_shp_big : ∀ a, ¬ a < am_NC → shp a = (if a = 1000 then (5, 7, []) else if a = 1001 then (5, 6, []) else (9, 0, [])) := by
  intro k hk
  have e : ∀ j, j < am_NC → Nat.beq k j = false := fun j hj => by
    rw [← Bool.not_eq_true, Nat.beq_eq]
    omega
  have l : ∀ j, j ≤ am_NC → Nat.blt k j = false := fun j hj => by
    rw [← Bool.not_eq_true, Nat.blt_eq]
    omega
  unfold shp
  simp only [l 30 (by decide), l 56 (by decide), l 69 (by decide), l 71 (by decide), l 77 (by decide), l 80 (by decide), e 71 (by decide), e 77 (by decide), e 80 (by decide), e 81 (by decide), cond_false]
  by_cases h1 : k = 1000
  · subst h1; rfl
  · have h1' : Nat.beq k 1000 = false := by rw [← Bool.not_eq_true, Nat.beq_eq]; exact h1
    rw [h1', if_neg h1, cond_false]
    by_cases h2 : k = 1001
    · subst h2; rfl
    · have h2' : Nat.beq k 1001 = false := by rw [← Bool.not_eq_true, Nat.beq_eq]; exact h2
      rw [h2', if_neg h2, cond_false]
theorem am_shp_ok : ∀ a, a < am_NC → (shp a).1 < 5 ∧ (((shp a).1 = 3 ∨ (shp a).1 = 4) → (shp a).2.2.length = (shp a).2.1) := by decide +kernel
theorem am_shp5 {a n : Nat} {fs : List Nat} (h : shp a = (5, n, fs)) : (a = 1000 ∧ n = 7) ∨ (a = 1001 ∧ n = 6) := by
  by_cases q : a < am_NC
  · have := (am_shp_ok a q).1
    rw [h] at this
    exact absurd this (Nat.lt_irrefl 5)
  · rw [am_shp_big a q] at h
    split at h
    · left; cases h; exact ⟨by assumption, rfl⟩
    · split at h
      · right; cases h; exact ⟨by assumption, rfl⟩
      · cases h
theorem am_cls : ∀ (ci : Nat) (q : vw_C), vwCl[ci]? = some q → (∃ ty0 : Nat → FieldType, ∀ k, k < q.2.2 → parseFieldDescriptor (q.2.1 k).2.2.1 = some (ty0 k)) ∧ (∀ a, a < q.2.2 → ∀ b, b < q.2.2 → a ≠ b → (q.2.1 a).2.1 ≠ (q.2.1 b).2.1) ∧ (∀ w ∈ u_ws q.1 q.2.1 q.2.2, w ∈ am_ws) := by
  have hw : ∀ (C : String) (T : u_T) (N : Nat), (u_ws C T N).all (fun w => decide (w ∈ lw_tbl) && goodWord w) = true → ∀ w ∈ u_ws C T N, w ∈ am_ws := fun C T N h w hw => by
    have h1 := List.all_eq_true.mp h w hw
    simp only [Bool.and_eq_true, decide_eq_true_eq] at h1
    exact List.mem_filter.mpr h1
  intro ci q hq
  match ci, hq with
  | 0, hq => cases hq; exact ⟨⟨tyX0, tyX0_ok⟩, nmX0, hw _ _ _ (by decide +kernel)⟩
  | 1, hq => cases hq; exact ⟨⟨tyX1, tyX1_ok⟩, nmX1, hw _ _ _ (by decide +kernel)⟩
  | 2, hq => cases hq; exact ⟨⟨tyX2, tyX2_ok⟩, nmX2, hw _ _ _ (by decide +kernel)⟩
  | 3, hq => cases hq; exact ⟨⟨tyX3, tyX3_ok⟩, nmX3, hw _ _ _ (by decide +kernel)⟩
  | 4, hq => cases hq; exact ⟨⟨tyX4, tyX4_ok⟩, nmX4, hw _ _ _ (by decide +kernel)⟩
  | 5, hq => cases hq; exact ⟨⟨tyX5, tyX5_ok⟩, nmX5, hw _ _ _ (by decide +kernel)⟩
  | 6, hq => cases hq; exact ⟨⟨tyX6, tyX6_ok⟩, nmX6, hw _ _ _ (by decide +kernel)⟩
  | 7, hq => cases hq; exact ⟨⟨tyX7, tyX7_ok⟩, nmX7, hw _ _ _ (by decide +kernel)⟩
  | 8, hq => cases hq; exact ⟨⟨tyX8, tyX8_ok⟩, nmX8, hw _ _ _ (by decide +kernel)⟩
  | 9, hq => cases hq; exact ⟨⟨tyX9, tyX9_ok⟩, nmX9, hw _ _ _ (by decide +kernel)⟩
  | 10, hq => cases hq; exact ⟨⟨tyX10, tyX10_ok⟩, nmX10, hw _ _ _ (by decide +kernel)⟩
  | 11, hq => cases hq; exact ⟨⟨tyX11, tyX11_ok⟩, nmX11, hw _ _ _ (by decide +kernel)⟩
  | 12, hq => cases hq; exact ⟨⟨tyX12, tyX12_ok⟩, nmX12, hw _ _ _ (by decide +kernel)⟩
  | n + 13, hq => simp [vwCl] at hq
section AMS3
variable {p : Program} {l : Launch} {e : Env} {R : Room} {s : State} {m : MethodId} {args : Array Value} {below : List Frame} {meth : Method} {c : Code} {own : String} {cc : ByteArray} {rt : Option FieldType} {nL : Nat} {ad : Nat → Nat} {D : va_G} {c4 : am_T4} {Q : State → Prop} {res : Option Value × am_M} {K : am_K}
theorem am_snd3 {i : Instr} {len : Nat} {rs : List Int} {ws : List Nat} {pc : Nat} {ls st : List Value} {M : am_M} (X : am_Cx p s m args meth c own cc rt nL ad D c4) (hK : ∀ pc ls st M, K pc ls st M = some res → am_Tg p l e R s m args below meth c nL ad D c4 Q pc ls st M) (hd : decode cc pc = .ok (i, len)) (hc : ck_3 own i len rs ws = true) (h : am_s3 K i rs pc ls st M = some res) : am_Tg p l e R s m args below meth c nL ad D c4 Q pc ls st M := by
  obtain ⟨hx, hb, hr, hml, hown, hts, hlk, hKn, hnw, hinj, hz1, ht1, hz2, ht2⟩ := X
  intro H locs lsm hl hP hS
  have hD : va_D (am_A ad) (am_w ad c4 M) := am_w_D hinj c4 M
  unfold am_s3 at h
  split at h
  · -- getfield
    split at h <;> first | cases h | skip
    rename_i _ st' _ a r ci k n z
    split at h <;> first | cases h | skip
    rename_i _ cI fs hs
    split at h <;> first | cases h | skip
    rename_i hci
    subst hci
    have ha := am_shp_nc hs (by decide)
    have he : (am_w ad c4 M)[a]? = some (ad a, .inr (ci.toNat, am_fl ad M a)) := by rw [am_w_at ha, am_cl_0 hs]
    dsimp only [ck_3] at hc
    split at hc <;> first | cases hc | skip
    rename_i q hq
    simp only [ck_w, Bool.and_eq_true, decide_eq_true_eq] at hc
    obtain ⟨hc1, hc2, hc3⟩ := hc
    have hc1 := Nat.eq_of_beq_eq_true hc1
    subst hc1
    obtain ⟨-, -, hin⟩ := am_cls _ _ hq
    have key : ∀ v : Value, (am_fl ad M a)[k.toNat]? = some v → W p l e R s m args below meth c H locs 0 0 Q (F0 m (pc + 3) lsm (v :: r.map (am_cv ad))) → W p l e R s m args below meth c H locs 0 0 Q (F0 m pc lsm (.ref (ad a) :: r.map (am_cv ad))) := by
      intro v hv kk
      by_cases hn : n = 0
      · rw [if_pos hn] at hc3
        exact va_get hx hb hts hin hown hKn hP a he hq k.toNat hc2 (hts _ (am_word (of_decide_eq_true hc3) rfl)) (fun _ h9 => h9) hv hd kk
      · rw [if_neg hn] at hc3
        exact va_getN hx hb hts hin hown hKn hP a he hq k.toNat hc2 ((hnw _ _ _ _ _ _ _ (of_decide_eq_true hc3)).use rfl) (fun _ h9 => h9) hv hd kk
    have hs2 : fs = (shp a).2.2 := by rw [hs]
    subst hs2
    split at h <;> first | cases h | skip
    · rename_i hf
      exact key _ (am_fl_at hf) (hK _ _ _ _ h H locs lsm hl hP hS)
    · rename_i f hf
      exact key _ (am_fl_at hf) (hK _ _ _ _ h H locs lsm hl hP hS)
  · -- putfield
    split at h <;> first | cases h | skip
    rename_i _ st' _ x a r ci k n z
    split at h <;> first | cases h | skip
    rename_i _ cI fs hs
    split at h <;> first | cases h | skip
    rename_i hci
    subst hci
    have ha := am_shp_nc hs (by decide)
    have he : (am_w ad c4 M)[a]? = some (ad a, .inr (ci.toNat, am_fl ad M a)) := by rw [am_w_at ha, am_cl_0 hs]
    dsimp only [ck_3] at hc
    split at hc <;> first | cases hc | skip
    rename_i q hq
    simp only [ck_w, Bool.and_eq_true, decide_eq_true_eq, Bool.not_eq_true'] at hc
    obtain ⟨hc1, ⟨hc2, hc3⟩, hc4, hc5⟩ := hc
    have hc1 := Nat.eq_of_beq_eq_true hc1
    subst hc1
    obtain ⟨⟨ty0, hty⟩, hnm, hin⟩ := am_cls _ _ hq
    have hs2 : fs = (shp a).2.2 := by rw [hs]
    subst hs2
    split at h <;> first | cases h | skip
    rename_i hf
    have hlen : k.toNat < (am_fl ad M a).length := by unfold am_fl; rw [List.length_mapIdx]; exact (List.getElem?_eq_some_iff.mp hf).1
    have hset : (am_w ad c4 M).set a (ad a, .inr (ci.toNat, (am_fl ad M a).set k.toNat (.int x))) = am_w ad c4 (am_up M a k.toNat x) := by
      refine am_w_set ha ?_ am_setc_ne
      rw [am_cl_0 hs, am_fl_up hf]
    have key : K (pc + 3) ls r (am_up M a k.toNat x) = some res → narrow (if z = 0 then FieldType.int else .boolean) (.int x) = .int x → fits (if z = 0 then FieldType.int else .boolean) (.int x) = true → W p l e R s m args below meth c H locs 0 0 Q (F0 m pc lsm (.int x :: .ref (ad a) :: r.map (am_cv ad))) := by
      intro h2 hnar hfit
      by_cases hn : n = 0
      · rw [if_pos hn] at hc3
        refine va_put hx hb hts hin ty0 hty hnm hown hKn hP hD hS a he hq k.toNat hc2 (hts _ (am_word (of_decide_eq_true hc3) rfl)) (fun _ h9 => h9) hc4 hc5 hnar hfit hlen hd (fun H1 locs1 hP1 hD1 hS1 => ?_)
        rw [hset] at hP1
        exact hK _ _ _ _ h2 H1 locs1 lsm hl hP1 hS1
      · rw [if_neg hn] at hc3
        refine va_putN hx hb hts hin ty0 hty hnm hown hKn hP hD hS a he hq k.toNat hc2 ((hnw _ _ _ _ _ _ _ (of_decide_eq_true hc3)).use rfl) (fun _ h9 => h9) hc4 hc5 hnar hfit hlen hd (fun H1 locs1 hP1 hD1 hS1 => ?_)
        rw [hset] at hP1
        exact hK _ _ _ _ h2 H1 locs1 lsm hl hP1 hS1
    split at h
    · exact key h rfl rfl
    · split at h <;> first | cases h | skip
      rename_i hz01
      have hz : ¬ z = 0 := by assumption
      refine key h ?_ ?_
      · rw [if_neg hz]; rcases hz01 with rfl | rfl <;> rfl
      · rw [if_neg hz]; rcases hz01 with rfl | rfl <;> rfl
  · -- getstatic
    split at h <;> first | cases h | skip
    rename_i idx _ a n
    simp only [ck_3, ck_g, Bool.and_eq_true, Bool.or_eq_true, decide_eq_true_eq] at hc
    obtain ⟨hc1, hc2⟩ := hc
    have hc1 := Nat.eq_of_beq_eq_true hc1
    subst hc1
    rcases hc2 with ⟨rfl, hc3⟩ | ⟨rfl, hc3⟩
    · by_cases hn : n = 0
      · rw [if_pos hn] at hc3
        exact va_gets hx hb hz1 hS hown (hts _ (am_word (of_decide_eq_true hc3) rfl)) (fun _ h9 => h9) hd (hK _ _ _ _ h H locs lsm hl hP hS)
      · rw [if_neg hn] at hc3
        exact va_getsN hx hb hz1 hS hown ((hnw _ _ _ _ _ _ _ (of_decide_eq_true hc3)).use rfl) (fun _ h9 => h9) hd (hK _ _ _ _ h H locs lsm hl hP hS)
    · by_cases hn : n = 0
      · rw [if_pos hn] at hc3
        exact va_gets hx hb hz2 hS hown (hts _ (am_word (of_decide_eq_true hc3) rfl)) (fun _ h9 => h9) hd (hK _ _ _ _ h H locs lsm hl hP hS)
      · rw [if_neg hn] at hc3
        exact va_getsN hx hb hz2 hS hown ((hnw _ _ _ _ _ _ _ (of_decide_eq_true hc3)).use rfl) (fun _ h9 => h9) hd (hK _ _ _ _ h H locs lsm hl hP hS)
  · -- iaload
    have hc := Nat.eq_of_beq_eq_true hc
    subst hc
    split at h <;> first | cases h | skip
    rename_i j a r
    split at h <;> first | cases h | skip
    · rename_i _ n fs hs
      split at h <;> first | cases h | skip
      rename_i hin
      have ha := am_shp_nc hs (by decide)
      have he : (am_w ad c4 M)[a]? = some (ad a, .inl (c4.1, n, .inl (M a))) := by rw [am_w_at ha, am_cl_1 hs]
      exact va_iald hx hb hKn hP a 0 he rfl hin hd (hK _ _ _ _ h H locs lsm hl hP hS)
    · rename_i _ n fs hs
      split at h <;> first | cases h | skip
      rename_i hin
      rcases am_shp5 hs with ⟨rfl, rfl⟩ | ⟨rfl, rfl⟩
      · exact va_ti hx hb ht1 hS hin rfl hd (hK _ _ _ _ h H locs lsm hl hP hS)
      · exact va_ti hx hb ht2 hS hin rfl hd (hK _ _ _ _ h H locs lsm hl hP hS)
  · -- iastore
    have hc := Nat.eq_of_beq_eq_true hc
    subst hc
    split at h <;> first | cases h | skip
    rename_i x j a r
    split at h <;> first | cases h | skip
    rename_i _ n fs hs
    split at h <;> first | cases h | skip
    rename_i hin
    have ha := am_shp_nc hs (by decide)
    have he : (am_w ad c4 M)[a]? = some (ad a, .inl (c4.1, n, .inl (M a))) := by rw [am_w_at ha, am_cl_1 hs]
    refine va_iast hx hb hKn hP hD hS a 0 he rfl hin hd (fun H1 locs1 hP1 hD1 hS1 => ?_)
    rw [am_w_set (M' := am_up M a j.toNatClampNeg x) ha (by rw [am_cl_1 hs, am_up_eq]) am_setc_ne] at hP1
    exact hK _ _ _ _ h H1 locs1 lsm hl hP1 hS1
  · -- baload
    have hc := Nat.eq_of_beq_eq_true hc
    subst hc
    split at h <;> first | cases h | skip
    rename_i j a r
    split at h <;> first | cases h | skip
    rename_i _ n fs hs
    split at h <;> first | cases h | skip
    rename_i hin
    have ha := am_shp_nc hs (by decide)
    have he : (am_w ad c4 M)[a]? = some (ad a, .inl (c4.2.1, n, .inl (M a))) := by rw [am_w_at ha, am_cl_2 hs]
    exact va_zald hx hb hKn hP a 1 he rfl hin hd (hK _ _ _ _ h H locs lsm hl hP hS)
  · -- bastore
    have hc := Nat.eq_of_beq_eq_true hc
    subst hc
    split at h <;> first | cases h | skip
    rename_i x j a r
    split at h <;> first | cases h | skip
    rename_i _ n fs hs
    split at h <;> first | cases h | skip
    rename_i hin
    have ha := am_shp_nc hs (by decide)
    have he : (am_w ad c4 M)[a]? = some (ad a, .inl (c4.2.1, n, .inl (M a))) := by rw [am_w_at ha, am_cl_2 hs]
    refine va_zast hx hb hKn hP hD hS a 1 he rfl hin hd (fun H1 locs1 hP1 hD1 hS1 => ?_)
    rw [am_w_set (M' := am_up M a j.toNatClampNeg (vp_nar .boolean x)) ha (by rw [am_cl_2 hs, am_up_eq]) am_setc_ne] at hP1
    exact hK _ _ _ _ h H1 locs1 lsm hl hP1 hS1
  · -- aaload
    have hc := Nat.eq_of_beq_eq_true hc
    subst hc
    split at h <;> first | cases h | skip
    rename_i j a r
    split at h <;> first | cases h | skip
    · rename_i _ n fs hs
      split at h <;> first | cases h | skip
      rename_i hin
      have ha := am_shp_nc hs (by decide)
      have he : (am_w ad c4 M)[a]? = some (ad a, .inl (c4.2.2.1, n, .inr (.inr (.inr (.inr (fun i => (fs[i]?).map ad)))))) := by rw [am_w_at ha, am_cl_3 hs]
      refine va_aldq hx hb hKn hP a 2 he rfl hin hd ?_
      have hlen := (am_shp_ok a ha).2 (by rw [hs]; exact Or.inl rfl)
      rw [hs] at hlen
      have hj : j.toNatClampNeg < fs.length := by
        have : fs.length = n := hlen
        rw [this]
        exact Nat.lt_of_not_le fun z => hin (Or.inr z)
      have e9 : va_rf ((fs[j.toNatClampNeg]?).map ad) = am_cv ad (.ref (fs.getD j.toNatClampNeg 0)) := by
        rw [List.getD_eq_getElem?_getD, List.getElem?_eq_getElem hj]
        rfl
      rw [e9]
      exact hK _ _ _ _ h H locs lsm hl hP hS
    · rename_i _ n fs hs
      split at h <;> first | cases h | skip
      rename_i hin
      have ha := am_shp_nc hs (by decide)
      have he : (am_w ad c4 M)[a]? = some (ad a, .inl (c4.2.2.2, n, .inr (.inr (.inr (.inr (fun i => (fs[i]?).map ad)))))) := by rw [am_w_at ha, am_cl_4 hs]
      refine am_aldA hx hb hKn hP a 3 he rfl hin hd ?_
      have hlen := (am_shp_ok a ha).2 (by rw [hs]; exact Or.inr rfl)
      rw [hs] at hlen
      have hj : j.toNatClampNeg < fs.length := by
        have : fs.length = n := hlen
        rw [this]
        exact Nat.lt_of_not_le fun z => hin (Or.inr z)
      have e9 : va_rf ((fs[j.toNatClampNeg]?).map ad) = am_cv ad (.ref (fs.getD j.toNatClampNeg 0)) := by
        rw [List.getD_eq_getElem?_getD, List.getElem?_eq_getElem hj]
        rfl
      rw [e9]
      exact hK _ _ _ _ h H locs lsm hl hP hS
  · -- arraylength
    have hc := Nat.eq_of_beq_eq_true hc
    subst hc
    split at h <;> first | cases h | skip
    rename_i a r
    split at h <;> first | cases h | skip
    · rename_i _ n fs hs
      have ha := am_shp_nc hs (by decide)
      have he : (am_w ad c4 M)[a]? = some (ad a, .inl (c4.1, n, .inl (M a))) := by rw [am_w_at ha, am_cl_1 hs]
      exact va_alen hx hb hKn hP a 0 he rfl rfl hd (hK _ _ _ _ h H locs lsm hl hP hS)
    · rename_i _ n fs hs
      rcases am_shp5 hs with ⟨rfl, rfl⟩ | ⟨rfl, rfl⟩
      · exact va_tlen hx hb ht1 hS rfl hd (hK _ _ _ _ h H locs lsm hl hP hS)
      · exact va_tlen hx hb ht2 hS rfl hd (hK _ _ _ _ h H locs lsm hl hP hS)
  · cases h
end AMS3
