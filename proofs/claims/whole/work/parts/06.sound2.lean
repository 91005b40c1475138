/-! branches, fields, arrays -/
theorem am_k_int {z : Int} (h1 : -2147483648 ≤ z) (h2 : z < 2147483648) : (am_k z).toInt = z := by
  cases z with
  | ofNat n =>
    have h3 : n < 2 ^ 31 := by
      have : (n : Int) < 2147483648 := h2
      omega
    exact nI_toInt h3
  | negSucc n => exact Int32.toInt_ofInt_of_le (by omega) (by omega)
theorem am_k_eq {x : Int32} {z : Int} (h1 : -2147483648 ≤ z) (h2 : z < 2147483648) : x = am_k z ↔ x.toInt = z := by
  rw [← Int32.toInt_inj, am_k_int h1 h2]
theorem am_ts_in {x : Int32} {K : Nat → am_Res} {d : Int} : ∀ (t : List Int) (k : Int), -2147483648 ≤ k → k + t.length ≤ 2147483648 → (x.toInt < k ∨ k + t.length ≤ x.toInt) ∧ am_ts x K d k t = K d.toNat ∨ ∃ (j : Nat) (z : Int), x.toInt = k + j ∧ t[j]? = some z ∧ am_ts x K d k t = K z.toNat
  | [], k, _, _ => Or.inl ⟨by simp only [List.length_nil]; omega, rfl⟩
  | z :: t, k, h1, h2 => by
    rw [List.length_cons] at h2
    by_cases e : x.toInt = k
    · refine Or.inr ⟨0, z, by omega, rfl, ?_⟩
      unfold am_ts
      rw [if_pos ((am_k_eq h1 (by omega)).mpr e)]
    · have e2 : am_ts x K d k (z :: t) = am_ts x K d (k + 1) t := by
        conv => lhs; unfold am_ts
        rw [if_neg (fun q => e ((am_k_eq h1 (by omega)).mp q))]
      rw [e2]
      rcases am_ts_in t (k + 1) (by omega) (by omega) with ⟨h3, h4⟩ | ⟨j, z', h3, h4, h5⟩
      · refine Or.inl ⟨?_, h4⟩
        rw [List.length_cons]
        omega
      · exact Or.inr ⟨j + 1, z', by omega, h4, h5⟩
def am_lsk (pc : Nat) : List (Int × Int) → List Int → Bool
  | [], [] => true
  | (a, o) :: r, k :: t :: r' => decide (a = k) && (decide ((pc : Int) + o = (t.toNat : Int)) && (decide (-2147483648 ≤ k) && (decide (k < 2147483648) && am_lsk pc r r')))
  | _, _ => false
theorem am_ls_in {x : Int32} {K : Nat → am_Res} {d d' : Int} {pc : Nat} (hd : (pc : Int) + d' = (d.toNat : Int)) : ∀ (ps : List (Int × Int)) (t : List Int), am_lsk pc ps t = true → ∃ tgt : Nat, (pc : Int) + Op.lookupswitch.offset ps d' x.toInt = (tgt : Int) ∧ am_ls x K d t = K tgt
  | [], [], _ => ⟨d.toNat, hd, rfl⟩
  | [], _ :: _, h => by cases h
  | (a, o) :: r, [], h => by cases h
  | (a, o) :: r, [_], h => by cases h
  | (a, o) :: r, k :: t :: r', h => by
    simp only [am_lsk, Bool.and_eq_true, decide_eq_true_eq] at h
    obtain ⟨h1, h2, h3, h4, h5⟩ := h
    subst h1
    rw [Op.lookupswitch.offset_cons]
    by_cases e : x.toInt = a
    · refine ⟨t.toNat, by rw [if_pos e.symm]; exact h2, ?_⟩
      unfold am_ls
      rw [if_pos ((am_k_eq h3 h4).mpr e)]
    · obtain ⟨tgt, g1, g2⟩ := am_ls_in (x := x) (K := K) hd r r' h5
      refine ⟨tgt, by rw [if_neg (fun q => e q.symm)]; exact g1, ?_⟩
      unfold am_ls
      rw [if_neg (fun q => e ((am_k_eq h3 h4).mp q))]
      exact g2
def ck_2 (i : Instr) (pc len : Nat) (rs : List Int) : Bool := match i with
  | .goto off => Nat.beq len 3 && decide ((pc : Int) + off = ((rs.headD 0).toNat : Int))
  | .ifCond _ off => Nat.beq len 3 && decide ((pc : Int) + off = ((rs.headD 0).toNat : Int))
  | .if_icmp _ off => Nat.beq len 3 && decide ((pc : Int) + off = ((rs.headD 0).toNat : Int))
  | .tableswitch d lo hi offs => match rs with
    | dt :: t => decide ((pc : Int) + d = (dt.toNat : Int)) && (decide (-2147483648 ≤ lo) && (decide (lo + t.length ≤ 2147483648) && (decide (hi + 1 = lo + t.length) && decide (offs.toList.map (fun o => (pc : Int) + o) = t.map (fun z => (z.toNat : Int))))))
    | _ => false
  | .lookupswitch d ps => match rs with
    | dt :: t => decide ((pc : Int) + d = (dt.toNat : Int)) && ((ps.toList.zip (ps.toList.drop 1)).all (fun (a, next) => a.1 < next.1) && am_lsk pc ps.toList t)
    | _ => false
  | _ => false
section AMS2
variable {p : Program} {l : Launch} {e : Env} {R : Room} {s : State} {m : MethodId} {args : Array Value} {below : List Frame} {meth : Method} {c : Code} {own : String} {cc : ByteArray} {rt : Option FieldType} {nL : Nat} {ad : Nat → Nat} {D : va_G} {c4 : am_T4} {Q : State → Prop} {res : Option Value × am_M} {K : am_K}
theorem am_snd2 {i : Instr} {len : Nat} {rs : List Int} {pc : Nat} {ls st : List Value} {M : am_M} (X : am_Cx p s m args meth c own cc rt nL ad D c4) (hK : ∀ pc ls st M, K pc ls st M = some res → am_Tg p l e R s m args below meth c nL ad D c4 Q pc ls st M) (hd : decode cc pc = .ok (i, len)) (hc : ck_2 i pc len rs = true) (h : am_s2 K i rs pc ls st M = some res) : am_Tg p l e R s m args below meth c nL ad D c4 Q pc ls st M := by
  obtain ⟨hx, hb, hr, hml, hown, hts, hlk, hKn, hnw, hinj, hz1, ht1, hz2, ht2⟩ := X
  intro H locs lsm hl hP hS
  unfold am_s2 at h
  split at h
  · have hc := Bool.and_eq_true_iff.mp hc
    have hc1 := Nat.eq_of_beq_eq_true hc.1
    subst hc1
    exact lv_goto hx hb hd (of_decide_eq_true hc.2) (hK _ _ _ _ h H locs lsm hl hP hS)
  · split at h <;> first | cases h | skip
    have hc := Bool.and_eq_true_iff.mp hc
    have hc1 := Nat.eq_of_beq_eq_true hc.1
    subst hc1
    have ht := of_decide_eq_true hc.2
    split at h
    · refine lv_if_eq hx hb hd ht (fun q => ?_) (fun q => ?_)
      · rw [if_pos q] at h; exact hK _ _ _ _ h H locs lsm hl hP hS
      · rw [if_neg q] at h; exact hK _ _ _ _ h H locs lsm hl hP hS
    · refine lv_if_ne hx hb hd ht (fun q => ?_) (fun q => ?_)
      · first | (rw [if_pos q] at h; exact hK _ _ _ _ h H locs lsm hl hP hS) | (rw [if_neg q] at h; exact hK _ _ _ _ h H locs lsm hl hP hS)
      · first | (rw [if_neg q] at h; exact hK _ _ _ _ h H locs lsm hl hP hS) | (rw [if_pos q] at h; exact hK _ _ _ _ h H locs lsm hl hP hS)
    · refine lv_if_lt hx hb hd ht (fun q => ?_) (fun q => ?_)
      · rw [if_pos q] at h; exact hK _ _ _ _ h H locs lsm hl hP hS
      · rw [if_neg q] at h; exact hK _ _ _ _ h H locs lsm hl hP hS
    · refine lv_if_ge hx hb hd ht (fun q => ?_) (fun q => ?_)
      · first | (rw [if_neg (Int32.not_lt.mpr q)] at h; exact hK _ _ _ _ h H locs lsm hl hP hS) | (rw [if_neg q] at h; exact hK _ _ _ _ h H locs lsm hl hP hS)
      · first | (rw [if_pos (Int32.not_le.mp q)] at h; exact hK _ _ _ _ h H locs lsm hl hP hS) | (rw [if_pos q] at h; exact hK _ _ _ _ h H locs lsm hl hP hS)
    · refine lv_if_gt hx hb hd ht (fun q => ?_) (fun q => ?_)
      · first | (rw [if_neg (Int32.not_le.mpr q)] at h; exact hK _ _ _ _ h H locs lsm hl hP hS) | (rw [if_neg q] at h; exact hK _ _ _ _ h H locs lsm hl hP hS)
      · first | (rw [if_pos (Int32.not_lt.mp q)] at h; exact hK _ _ _ _ h H locs lsm hl hP hS) | (rw [if_pos q] at h; exact hK _ _ _ _ h H locs lsm hl hP hS)
    · refine lv_if_le hx hb hd ht (fun q => ?_) (fun q => ?_)
      · rw [if_pos q] at h; exact hK _ _ _ _ h H locs lsm hl hP hS
      · rw [if_neg q] at h; exact hK _ _ _ _ h H locs lsm hl hP hS
  · split at h <;> first | cases h | skip
    have hc := Bool.and_eq_true_iff.mp hc
    have hc1 := Nat.eq_of_beq_eq_true hc.1
    subst hc1
    have ht := of_decide_eq_true hc.2
    split at h
    · refine lv_icmp_eq hx hb hd ht (fun q => ?_) (fun q => ?_)
      · rw [if_pos q] at h; exact hK _ _ _ _ h H locs lsm hl hP hS
      · rw [if_neg q] at h; exact hK _ _ _ _ h H locs lsm hl hP hS
    · refine lv_icmp_ne hx hb hd ht (fun q => ?_) (fun q => ?_)
      · first | (rw [if_pos q] at h; exact hK _ _ _ _ h H locs lsm hl hP hS) | (rw [if_neg q] at h; exact hK _ _ _ _ h H locs lsm hl hP hS)
      · first | (rw [if_neg q] at h; exact hK _ _ _ _ h H locs lsm hl hP hS) | (rw [if_pos q] at h; exact hK _ _ _ _ h H locs lsm hl hP hS)
    · refine lv_icmp_lt hx hb hd ht (fun q => ?_) (fun q => ?_)
      · rw [if_pos q] at h; exact hK _ _ _ _ h H locs lsm hl hP hS
      · rw [if_neg q] at h; exact hK _ _ _ _ h H locs lsm hl hP hS
    · refine lv_icmp_ge hx hb hd ht (fun q => ?_) (fun q => ?_)
      · first | (rw [if_neg (Int32.not_lt.mpr q)] at h; exact hK _ _ _ _ h H locs lsm hl hP hS) | (rw [if_neg q] at h; exact hK _ _ _ _ h H locs lsm hl hP hS)
      · first | (rw [if_pos (Int32.not_le.mp q)] at h; exact hK _ _ _ _ h H locs lsm hl hP hS) | (rw [if_pos q] at h; exact hK _ _ _ _ h H locs lsm hl hP hS)
    · refine lv_icmp_gt hx hb hd ht (fun q => ?_) (fun q => ?_)
      · first | (rw [if_neg (Int32.not_le.mpr q)] at h; exact hK _ _ _ _ h H locs lsm hl hP hS) | (rw [if_neg q] at h; exact hK _ _ _ _ h H locs lsm hl hP hS)
      · first | (rw [if_pos (Int32.not_lt.mp q)] at h; exact hK _ _ _ _ h H locs lsm hl hP hS) | (rw [if_pos q] at h; exact hK _ _ _ _ h H locs lsm hl hP hS)
    · refine lv_icmp_le hx hb hd ht (fun q => ?_) (fun q => ?_)
      · rw [if_pos q] at h; exact hK _ _ _ _ h H locs lsm hl hP hS
      · rw [if_neg q] at h; exact hK _ _ _ _ h H locs lsm hl hP hS
  · split at h <;> first | cases h | skip
    split at h <;> first | cases h | skip
    rename_i d lo hi offs _ x r _ dt t
    simp only [ck_2, Bool.and_eq_true, decide_eq_true_eq] at hc
    obtain ⟨c1, c2, c3, c4', c5⟩ := hc
    rcases am_ts_in (x := x) (K := fun q => K q ls r M) (d := dt) t lo c2 c3 with ⟨h1, h2⟩ | ⟨j, z, h1, h2, h3⟩
    · rw [h2] at h
      exact lv_tableOut hx hb hd (by omega) c1 (hK _ _ _ _ h H locs lsm hl hP hS)
    · rw [h3] at h
      have hj := (List.getElem?_eq_some_iff.mp h2).1
      have h4 : (offs.toList.map (fun o => (pc : Int) + o))[j]? = some (z.toNat : Int) := by rw [c5, List.getElem?_map, h2]; rfl
      rw [List.getElem?_map, Option.map_eq_some_iff] at h4
      obtain ⟨o, ho, ho2⟩ := h4
      refine lv_tableIn hx hb hd (off := o) (tgt := z.toNat) (by omega) (by omega) ?_ ho2 (hK _ _ _ _ h H locs lsm hl hP hS)
      rw [show (x.toInt - lo).toNat = j by omega, ← Array.getElem?_toList]
      exact ho
  · split at h <;> first | cases h | skip
    split at h <;> first | cases h | skip
    rename_i d ps _ x r _ dt t
    simp only [ck_2, Bool.and_eq_true, decide_eq_true_eq] at hc
    obtain ⟨c1, c2, c3⟩ := hc
    obtain ⟨tgt, h1, h2⟩ := am_ls_in (x := x) (K := fun q => K q ls r M) c1 ps.toList t c3
    rw [h2] at h
    exact lv_lookup hx hb hd c2 rfl h1 (hK _ _ _ _ h H locs lsm hl hP hS)
  · cases h
end AMS2
