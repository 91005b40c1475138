/-- several steps, up to the next of some places -/
noncomputable def am_to (C : am_H) (rt : Option FieldType) (tb : Nat → Option am_E) (K : am_K) (S : Nat → Bool) : Nat → am_K
  | 0 => K
  | n + 1 => fun pc ls st M => am_stp C (fun pc' ls' st' M' => bif S pc' then K pc' ls' st' M' else am_to C rt tb K S n pc' ls' st' M') rt (tb pc) pc ls st M
theorem am_lim_to (C : am_H) (rt : Option FieldType) (tb : Nat → Option am_E) (S : Nat → Bool) : ∀ n : Nat, am_to C rt tb (am_lim C rt tb) S n = am_lim C rt tb
  | 0 => rfl
  | n + 1 => by
    funext pc ls st M
    show am_stp C (fun pc' ls' st' M' => bif S pc' then am_lim C rt tb pc' ls' st' M' else am_to C rt tb (am_lim C rt tb) S n pc' ls' st' M') rt (tb pc) pc ls st M = _
    have e : (fun pc' ls' st' M' => bif S pc' then am_lim C rt tb pc' ls' st' M' else am_to C rt tb (am_lim C rt tb) S n pc' ls' st' M') = am_lim C rt tb := by
      funext pc' ls' st' M'
      rw [am_lim_to C rt tb S n]
      cases S pc' <;> rfl
    rw [e, ← am_lim_eq]
def am_mem : List Nat → Nat → Bool
  | [], _ => false
  | a :: l, p => bif Nat.beq a p then true else am_mem l p
theorem am_jmp (S : List Nat) (n : Nat) {C : am_H} {rt : Option FieldType} {tb : Nat → Option am_E} {pc : Nat} {ls st : List Value} {M : am_M} {r : am_Res} (h : am_to C rt tb (am_lim C rt tb) (am_mem S) n pc ls st M = r) : am_lim C rt tb pc ls st M = r := by
  rw [← h, am_lim_to]
theorem am_call_eq (d i : Nat) (as : List Value) (M : am_M) (h : Nat.blt i am_N = true ∧ (am_ent as).length ≤ am_L i) : am_call (d + 1) i as M = am_lim (am_call d) (am_R i) (am_tx i) 0 (am_pad (am_ent as) (am_L i)) [] M := by
  show (if _ then _ else _) = _
  rw [if_pos h]
