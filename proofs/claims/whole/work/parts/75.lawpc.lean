/-! the law's pieces -/
abbrev lc_A (s : State) : Nat → Prop := fun q => s.heap.size ≤ q
def lc_C (p : Program) (s : State) (m : MethodId) (meth : Method) (c : Code) (b L : Nat) (xs : Nat → Int32) (ad : Nat → Nat) (D : va_G) (c4 : am_T4) : Prop :=
  lw_At p s m meth c b L xs ∧ va_K D vwCl (am_ty c4) s ∧ am_NW s ∧ (∀ i j, i < am_NC → j < am_NC → ad i = ad j → i = j) ∧ (∀ k, k < am_NC → s.heap.size ≤ ad k) ∧
  va_Z "ShelfNights" "KIND_ABOVE" "[I" (.ref (ad 1000)) (am_A ad) s s.heap ∧ va_T .int (ad 1000) 7 (fun j => .int (am_sta 1000 j)) (am_A ad) s s.heap ∧ va_Z "ShelfNights" "NAMES" "[I" (.ref (ad 1001)) (am_A ad) s s.heap ∧ va_T .int (ad 1001) 6 (fun j => .int (am_sta 1001 j)) (am_A ad) s s.heap
abbrev lc_l (ad : Nat → Nat) (b k : Nat) : List (Nat × Value) := [(3, .int (nI k)), (2, .ref (ad 68)), (1, .ref (ad 0)), (0, .ref b)]
def lc_a (pc n : Nat) : Bool := Nat.blt n 6 && (decide (decode code pc = .ok (.aload_n 0, 1)) && (decide (decode code (pc + 1) = .ok (.iload_n 3, 1)) && (decide (decode code (pc + 2) = .ok (.iconst n, 1)) && (decide (decode code (pc + 3) = .ok (.iadd, 1)) && decide (decode code (pc + 4) = .ok (.iaload, 1))))))
def lc_as : Nat → List Nat → Bool
  | _, [] => true
  | pc, n :: r => lc_a pc n && lc_as (pc + 5) r
section LC
variable {p : Program} {l : Launch} {e : Env} {s : State} {m : MethodId} {b : Nat} {below : List Frame} {meth : Method} {c : Code} {H : Heap} {locs : List Loc} {cells slots : Nat} {Q : State → Prop} {ls : Array Slot} {rest : List Value} {L : Nat} {xs : Nat → Int32} {ad : Nat → Nat} {D : va_G} {c4 : am_T4}
theorem lc_words (X : lc_C p s m meth c b L xs ad D c4) : ∀ w ∈ am_ws, w.before #[Value.ref b] s = true := fun w hw => X.1.2.2.2.2.2.1 w (List.mem_filter.mp hw).1
theorem lc_Wd (X : lc_C p s m meth c b L xs ad D c4) {M : am_M} (hP : va_P D vwCl (am_w ad c4 M) H) (hS : va_S (lc_A s) s.heap H locs) (U : State) (hU : U.heap = H) (hW : s.WarmedH U.vm) : am_Wd ad D c4 M U := by
  obtain ⟨-, hKn, hnw, hinj, had, hz1, ht1, hz2, ht2⟩ := X
  have hk : ∀ q : Nat, q < s.heap.size → ¬ am_A ad q → H[q]? = s.heap[q]? := fun q h _ => hS.2.1 q h (Nat.not_le.mpr h)
  refine ⟨by rw [hU]; exact hP, va_K.moved hW.alike hKn, am_NW_warm hW hnw, va_Z.moved hW.alike ?_, va_T.moved hW.alike ?_, va_Z.moved hW.alike ?_, va_T.moved hW.alike ?_⟩
  · rw [hU]; exact va_Z.kept hz1 hk
  · rw [hU]; exact va_T.kept ht1 hk
  · rw [hU]; exact va_Z.kept hz2 hk
  · rw [hU]; exact va_T.kept ht2 hk
theorem lc_arg (X : lc_C p s m meth c b L xs ad D c4) (hL : L ≤ 3072) {k : Nat} (hk : k + 6 ≤ L) (hS : va_S (lc_A s) s.heap H locs) (hl : lv_has ls 4 (lc_l ad b k)) {pc n : Nat} (hck : lc_a pc n = true)
    (kk : W p l e room_1 s m #[Value.ref b] below meth c H locs cells slots Q (F0 m (pc + 5) ls (.int (xs (k + n)) :: rest))) : W p l e room_1 s m #[Value.ref b] below meth c H locs cells slots Q (F0 m pc ls rest) := by
  obtain ⟨⟨hx, hb, hr, hml, hown, hts, hX, hbl, hlk, hgv⟩, -⟩ := X
  simp only [lc_a, Bool.and_eq_true, decide_eq_true_eq] at hck
  obtain ⟨h0, h1, h2, h3, h4, h5⟩ := hck
  have hn : n < 6 := Nat.blt_eq.mp h0
  refine lv_aload_n hx hb h1 rfl (lv_at hl 3 rfl) ?_
  refine lv_iload_n hx hb h2 rfl (lv_at hl 0 rfl) ?_
  refine lv_iconst (v := nI n) hx hb h3 (by show Int32.ofInt (n : Int) = Int32.ofNat n; rfl) ?_
  refine lv_iadd hx hb h4 ?_
  rw [nI_add]
  refine va_sld (A := lc_A s) hx hb hX hbl (Nat.not_le.mpr hbl) hS (nI_in (c := k + n) (by omega) (by omega)) h5 ?_
  rw [nI_clamp (by omega)]
  exact kk
theorem lc_args (X : lc_C p s m meth c b L xs ad D c4) (hL : L ≤ 3072) {k : Nat} (hk : k + 6 ≤ L) (hS : va_S (lc_A s) s.heap H locs) (hl : lv_has ls 4 (lc_l ad b k)) : ∀ (ns : List Nat) (pc : Nat) (rest : List Value), lc_as pc ns = true →
    W p l e room_1 s m #[Value.ref b] below meth c H locs cells slots Q (F0 m (pc + 5 * ns.length) ls ((ns.map (fun n => Value.int (xs (k + n)))).reverse ++ rest)) → W p l e room_1 s m #[Value.ref b] below meth c H locs cells slots Q (F0 m pc ls rest)
  | [], pc, rest, _, kk => kk
  | n :: r, pc, rest, hck, kk => by
    simp only [lc_as, Bool.and_eq_true] at hck
    refine lc_arg X hL hk hS hl hck.1 (lc_args X hL hk hS hl r (pc + 5) _ hck.2 ?_)
    have e1 : pc + 5 + 5 * r.length = pc + 5 * (n :: r).length := by simp only [List.length_cons]; omega
    have e2 : (r.map (fun n => Value.int (xs (k + n)))).reverse ++ (Value.int (xs (k + n)) :: rest) = ((n :: r).map (fun n => Value.int (xs (k + n)))).reverse ++ rest := by simp
    rw [e1, e2]
    exact kk
/-- a call of one of the two objects -/
theorem lc_call (X : lc_C p s m meth c b L xs ad D c4) {M M1 : am_M} {d i t ci idx pc w1 w3 w4 w5 : Nat} {fs : List Nat} {as : List Value} {r : Int32} (hcall : am_call d i (.ref t :: as) M = some (some (.int r), M1)) (hd2 : d ≤ 100) (hsh : shp t = (0, ci, fs)) (hck : ck_v1 R_law idx as.length ci i 0 w1 0 w3 w4 w5 0 0 0 = true) (hd : decode code pc = .ok (.invokevirtual idx, 3))
    (hcc : cells + 0 ≤ room_1.cells ∧ slots + 0 ≤ room_1.slots) (hcat : (rest.map fun v => v.category).sum ≤ 8) (hsz : ls.size = 4) (hP : va_P D vwCl (am_w ad c4 M) H) (hS : va_S (lc_A s) s.heap H locs)
    (kk : ∀ (H1 : Heap) (locs1 : List Loc), va_P D vwCl (am_w ad c4 M1) H1 → va_S (lc_A s) s.heap H1 locs1 → W p l e room_1 s m #[Value.ref b] below meth c H1 locs1 cells slots Q (F0 m (pc + 3) ls (.int r :: rest))) :
    W p l e room_1 s m #[Value.ref b] below meth c H locs cells slots Q (F0 m pc ls ((as.map (am_cv ad)).reverse ++ .ref (ad t) :: rest)) := by
  have XX := X
  have hts := lc_words X
  obtain ⟨⟨hx, hb, hr, hml, hown, -, hX, hbl, hlk, hgv⟩, hKn, hnw, hinj, had, -⟩ := X
  have hM := am_sound l ad D c4 hinj d i _ M _ hcall
  simp only [ck_v1, Bool.and_eq_true, decide_eq_true_eq] at hck
  obtain ⟨v1, v2, v3, v4, g1, g2, g3, g4⟩ := hck
  have hmid : i < am_N := Nat.blt_eq.mp v1
  have cd := am_codes _ hmid
  have ht := am_shp_nc hsh (by decide)
  have he : (am_w ad c4 M)[t]? = some (ad t, .inr (ci, am_fl ad M t)) := by rw [am_w_at ht, am_cl_0 hsh]
  obtain ⟨q, hq, hqn⟩ := am_vw13 ci v2
  have hpv : PreV s H (am_cn ci) (ad t) (va_Pc (((Value.ref t) :: as).map (am_cv ad)) (am_Wd ad D c4 M)) (as.map (am_cv ad)) := ⟨am_blind, by rw [← hqn]; exact va_recv hKn hP hq he, fun U hU hW => ⟨rfl, lc_Wd XX hP hS U hU hW⟩⟩
  have hroom : (am_rm d).frames + 1 ≤ room_1.frames ∧ 8 + (am_L i + 11) + (am_rm d).locals ≤ room_1.locals := by
    have := cd.2.1
    exact ⟨by show d + 1 + 1 ≤ 2048; omega, by show 8 + (am_L i + 11) + (40 * d + 40) ≤ 84000; omega⟩
  have hin : ∀ w ∈ wsV R_law idx (am_cn ci) (am_Y i) (am_wsA i), w ∈ am_ws := by
    intro w hw
    unfold wsV at hw
    rcases List.mem_append.mp hw with hw | hw
    · simp only [List.mem_cons, List.not_mem_nil, or_false] at hw
      rcases hw with rfl | rfl | rfl | rfl
      · exact wq_in g1 rfl
      · exact wq_in v4 rfl
      · exact wq_in g2 rfl
      · exact wq_in g3 rfl
    · exact am_wsA_in hmid w hw
  have hrun := va_runV (p := p) (l := l) (e := e) (R := room_1) (below := below) (meth := meth) (locs := locs) (cells := cells) (slots := slots) (Ts := am_ws) (cc := code) (nL := 4) (own := R_law) (g := F0 m pc ls ((as.map (am_cv ad)).reverse ++ .ref (ad t) :: rest)) (As := as.map (am_cv ad)) (rest := rest) ⟨hx, hb, hml, hown, hts⟩ hM (cwV as.length hts (am_goodin hin) rfl rfl rfl ⟨g4, cd.2.2.2.1, cd.2.2.2.2, v3⟩ hroom) hpv rfl (by simp) hsz rfl (lv_room hcat) hd ⟨hcc.1, hcc.2⟩
  intro T hT Xs
  obtain ⟨v, st₀, t', T', L', h0, X', hL', e1, e2, ⟨⟨hv, hP1⟩, hz, hk⟩, st⟩ := hrun T hT Xs
  cases hv
  rw [h0] at hz hk
  obtain ⟨t2, a1, b1⟩ := kk T'.heap (locs ++ L') (e1 ▸ hP1) ⟨Nat.le_trans hS.1 (by rw [e1]; exact hz), fun q h1 h2 => by
      rw [e1, hk q (Nat.lt_of_lt_of_le h1 hS.1) (fun z => by obtain ⟨k, hk1, hk2⟩ := z; exact absurd (had k hk1) (by rw [← hk2]; exact Nat.not_le.mpr h1))]
      exact hS.2.1 q h1 h2, fun q hq => by
      rcases List.mem_append.mp hq with h | h
      · exact hS.2.2 q h
      · obtain ⟨k, hk1, hk2⟩ := hL' q h
        show s.heap.size ≤ q.base
        rw [hk2]
        exact had k hk1⟩ T' rfl X'
  exact ⟨t2, st t2 a1, b1⟩
/-- both calls, and the comparison -/
theorem lc_case (X : lc_C p s m meth c b L xs ad D c4) {k : Nat} (hl : lv_has ls 4 (lc_l ad b k)) (hcell : cells ≤ 1000 ∧ slots ≤ 10000) {pc nb i j idx1 idx2 u1 u3 u4 u5 v1 v3 v4 v5 : Nat} {off : Int} {as : List Value} {n : Nat} (hn : as.length = n) (has : as.map (am_cv ad) = as) {M : am_M} (hpo : PO 0 i j as M)
    (hpush : ∀ q, (q = pc + 1 ∨ q = pc + (5 + nb)) → ∀ (H1 : Heap) (locs1 : List Loc) (rest : List Value), va_S (lc_A s) s.heap H1 locs1 → W p l e room_1 s m #[Value.ref b] below meth c H1 locs1 cells slots Q (F0 m (q + nb) ls (as.reverse ++ rest)) → W p l e room_1 s m #[Value.ref b] below meth c H1 locs1 cells slots Q (F0 m q ls rest))
    (h1 : decode code pc = .ok (.aload_n 1, 1)) (h2 : decode code (pc + 1 + nb) = .ok (.invokevirtual idx1, 3)) (h3 : decode code (pc + 1 + nb + 3) = .ok (.aload_n 2, 1)) (h4 : decode code (pc + (5 + nb) + nb) = .ok (.invokevirtual idx2, 3)) (h5 : decode code (pc + (5 + nb) + nb + 3) = .ok (.if_icmp .eq off, 3)) (h6 : ((pc + (5 + nb) + nb + 3 : Nat) : Int) + off = ((1397 : Nat) : Int))
    (c1 : ck_v1 R_law idx1 n 11 i 0 u1 0 u3 u4 u5 0 0 0 = true) (c2 : ck_v1 R_law idx2 n 12 j 0 v1 0 v3 v4 v5 0 0 0 = true)
    (hP : va_P D vwCl (am_w ad c4 M) H) (hS : va_S (lc_A s) s.heap H locs)
    (kk : ∀ (M2 : am_M) (H1 : Heap) (locs1 : List Loc), IV M2 M2 → va_P D vwCl (am_w ad c4 M2) H1 → va_S (lc_A s) s.heap H1 locs1 → W p l e room_1 s m #[Value.ref b] below meth c H1 locs1 cells slots Q (F0 m 1397 ls [])) :
    W p l e room_1 s m #[Value.ref b] below meth c H locs cells slots Q (F0 m pc ls []) := by
  subst hn
  obtain ⟨r, M1, M2, p1, p2, hI⟩ := hpo
  have hx := X.1.1
  have hb := X.1.2.1
  have hcc : cells + 0 ≤ room_1.cells ∧ slots + 0 ≤ room_1.slots := ⟨by show cells + 0 ≤ 600000; omega, by show slots + 0 ≤ 7302250; omega⟩
  refine lv_aload_n hx hb h1 rfl (lv_at hl 2 rfl) ?_
  refine hpush _ (Or.inl rfl) _ _ _ hS ?_
  rw [← has]
  refine lc_call X (t := 0) (rest := []) p1 (by decide) rfl c1 h2 hcc (Nat.zero_le _) hl.1 hP hS (fun H1 locs1 hP1 hS1 => ?_)
  refine lv_aload_n hx hb h3 rfl (lv_at hl 1 rfl) ?_
  have e0 : pc + 1 + nb + 3 + 1 = pc + (5 + nb) := by omega
  rw [e0]
  refine hpush _ (Or.inr rfl) _ _ _ hS1 ?_
  rw [← has]
  refine lc_call X (t := 68) (rest := [.int r]) p2 (by decide) rfl c2 h4 hcc (Nat.le_of_ble_eq_true rfl) hl.1 hP1 hS1 (fun H2 locs2 hP2 hS2 => ?_)
  exact lv_icmp_eq hx hb h5 h6 (fun _ => kk M2 H2 locs2 hI hP2 hS2) (fun h => absurd rfl h)
end LC
