/-! THE SMALL MACHINE: the code of the methods, resolved ahead; its store holds ints alone, by cell and place; what refers to what never changes (shp). A run of it is a run of the machine (part 05). -/
abbrev am_E : Type := Nat × Instr × Nat × List Int × List Nat
abbrev am_M : Type := Nat → Nat → Int32
abbrev am_Res : Type := Option (Option Value × am_M)
abbrev am_K : Type := Nat → List Value → List Value → am_M → am_Res
abbrev am_H : Type := Nat → List Value → am_M → am_Res
def am_k (z : Int) : Int32 := match z with
  | .ofNat n => nI n
  | .negSucc n => Int32.ofInt (.negSucc n)
def am_kl (z : Int) : Int64 := match z with
  | .ofNat n => lN n
  | .negSucc n => Int64.ofInt (.negSucc n)
def am_clr (v : Value) : Value := if v.category = 2 then .null else v
def am_set (ls : List Value) (i : Nat) (v : Value) : List Value := (match i with
  | 0 => ls
  | j + 1 => ls.set j (am_clr (ls.getD j .null))).set i v
def am_setc (M : am_M) (a : Nat) (f : Nat → Int32) : am_M := fun b => if b = a then f else M b
abbrev am_up (M : am_M) (a i : Nat) (x : Int32) : am_M := am_setc M a (upd (M a) i x)
/-- the cells: (0, class, for each field 0: an int, n + 1: the cell n), (1, n, ..) an int array, (2, n, ..) a boolean array, (3 4, n, cells) arrays of references, (5, n, ..) a static array -/
noncomputable def shp : Nat → Nat × Nat × List Nat := fun k =>
  bif Nat.blt k 30 then
    (bif Nat.blt k 9 then
      (bif Nat.beq k 0 then (0, 11, [10, 31, 17, 42, 0, 24, 57, 58, 53, 59, 61, 62, 63, 68])
      else bif Nat.beq k 1 then (3, 7, [2, 3, 4, 5, 6, 7, 8])
      else bif Nat.beq k 2 then (0, 5, [])
      else bif Nat.beq k 3 then (0, 3, [])
      else bif Nat.beq k 4 then (0, 7, [])
      else bif Nat.beq k 5 then (0, 6, [])
      else bif Nat.beq k 6 then (0, 2, [])
      else bif Nat.beq k 7 then (0, 4, [])
      else (0, 0, []))
    else
      (bif Nat.beq k 9 then (0, 8, [2, 11, 12, 13, 14, 15, 16, 0, 0])
      else bif Nat.beq k 16 then (0, 8, [2, 18, 19, 20, 21, 22, 23, 0, 0])
      else bif Nat.beq k 23 then (0, 8, [2, 25, 26, 27, 28, 29, 30, 0, 0])
      else bif Nat.beq k 12 || Nat.beq k 19 || Nat.beq k 26 then (2, 6, [])
      else bif Nat.beq k 13 || Nat.beq k 20 || Nat.beq k 27 then (1, 36, [])
      else (1, 6, [])))
  else bif Nat.blt k 56 then
    (bif Nat.beq k 30 then (0, 1, [32, 0, 34, 38, 0, 33, 0])
    else bif Nat.beq k 41 then (0, 1, [43, 0, 45, 49, 0, 44, 0])
    else bif Nat.beq k 32 || Nat.beq k 43 then (1, 20, [])
    else bif Nat.beq k 33 then (0, 10, [35, 0, 36, 37, 0, 0, 0, 0])
    else bif Nat.beq k 37 then (0, 10, [39, 0, 40, 41, 0, 0, 0, 0])
    else bif Nat.beq k 44 then (0, 10, [46, 0, 47, 48, 0, 0, 0, 0])
    else bif Nat.beq k 48 then (0, 10, [50, 0, 51, 52, 0, 0, 0, 0])
    else bif Nat.beq k 52 then (0, 10, [54, 0, 55, 56, 0, 0, 0, 0])
    else (1, 50, []))
  else bif Nat.blt k 69 then
    (bif Nat.beq k 58 then (0, 9, [60, 0, 0, 0])
    else bif Nat.beq k 59 then (1, 40, [])
    else bif Nat.beq k 60 || Nat.beq k 61 then (1, 4, [])
    else bif Nat.beq k 62 then (4, 4, [63, 64, 65, 66])
    else bif Nat.blt k 63 || Nat.beq k 67 then (1, 6, [])
    else bif Nat.blt k 67 then (1, 40, [])
    else (0, 12, [70, 71, 72, 73, 0, 0, 0, 0, 0, 0, 0, 0, 0, 0, 74, 75, 76, 77, 78, 0, 0, 0, 0, 79, 80, 81, 82]))
  else bif Nat.blt k 71 then (1, 237, [])
  else bif Nat.beq k 71 then (1, 62, [])
  else bif Nat.blt k 77 then (1, 6, [])
  else bif Nat.beq k 77 then (1, 40, [])
  else bif Nat.blt k 80 then (1, 4, [])
  else bif Nat.beq k 80 then (1, 160, [])
  else bif Nat.beq k 81 then (1, 40, [])
  else bif Nat.beq k 1000 then (5, 7, [])
  else bif Nat.beq k 1001 then (5, 6, [])
  else (9, 0, [])
abbrev am_NC : Nat := 82
/-- the static arrays' ints -/
def am_st1 (i : Nat) : Int32 := match i with | 0 => -1 | 1 => 0 | 2 => 0 | 3 => 0 | 4 => 1 | 5 => 2 | 6 => 3 | _ => 0
def am_st2 (i : Nat) : Int32 := match i with | 0 => 111 | 1 => 108 | 2 => 114 | 3 => 97 | 4 => 112 | 5 => 110 | _ => 0
def am_sta (a i : Nat) : Int32 := bif Nat.beq a 1000 then am_st1 i else am_st2 i
def am_lk (ci : Nat) : List Int → Option Nat
  | c :: m :: r => if c.toNat = ci then some m.toNat else am_lk ci r
  | _ => none
def am_ts (x : Int32) (K : Nat → am_Res) (d : Int) : Int → List Int → am_Res
  | _, [] => K d.toNat
  | k, t :: r => if x = am_k k then K t.toNat else am_ts x K d (k + 1) r
def am_ls (x : Int32) (K : Nat → am_Res) (d : Int) : List Int → am_Res
  | k :: t :: r => if x = am_k k then K t.toNat else am_ls x K d r
  | _ => K d.toNat
def am_s0 (K : am_K) (i : Instr) (rs : List Int) (pc : Nat) (ls st : List Value) (M : am_M) : am_Res :=
  match i with
  | .aload_n k => match ls[k.val]? with
    | some (.ref a) => K (pc + 1) ls (.ref a :: st) M
    | _ => none
  | .aload k => match ls[k]? with
    | some (.ref a) => K (pc + 2) ls (.ref a :: st) M
    | _ => none
  | .iload_n k => match ls[k.val]? with
    | some (.int a) => K (pc + 1) ls (.int a :: st) M
    | _ => none
  | .iload k => match ls[k]? with
    | some (.int a) => K (pc + 2) ls (.int a :: st) M
    | _ => none
  | .lload_n k => match ls[k.val]? with
    | some (.long a) => K (pc + 1) ls (.long a :: st) M
    | _ => none
  | .lload k => match ls[k]? with
    | some (.long a) => K (pc + 2) ls (.long a :: st) M
    | _ => none
  | .istore_n k => match st with
    | .int x :: r => if k.val < ls.length then K (pc + 1) (am_set ls k.val (.int x)) r M else none
    | _ => none
  | .istore k => match st with
    | .int x :: r => if k < ls.length then K (pc + 2) (am_set ls k (.int x)) r M else none
    | _ => none
  | .astore_n k => match st with
    | .ref x :: r => if k.val < ls.length then K (pc + 1) (am_set ls k.val (.ref x)) r M else none
    | _ => none
  | .astore k => match st with
    | .ref x :: r => if k < ls.length then K (pc + 2) (am_set ls k (.ref x)) r M else none
    | _ => none
  | .iinc k _ => match ls[k]? with
    | some (.int x) => K (pc + 3) (am_set ls k (.int (x + am_k (rs.headD 0)))) st M
    | _ => none
  | .iconst _ => K (pc + 1) ls (.int (am_k (rs.headD 0)) :: st) M
  | .bipush _ => K (pc + 2) ls (.int (am_k (rs.headD 0)) :: st) M
  | .sipush _ => K (pc + 3) ls (.int (am_k (rs.headD 0)) :: st) M
  | .ldc _ => K (pc + 2) ls (.int (am_k (rs.headD 0)) :: st) M
  | .ldc_w _ => K (pc + 3) ls (.int (am_k (rs.headD 0)) :: st) M
  | .ldc2_w _ => K (pc + 3) ls (.long (am_kl (rs.headD 0)) :: st) M
  | .lconst _ => K (pc + 1) ls (.long (am_kl (rs.headD 0)) :: st) M
  | .dup => match st with
    | v :: r => if v.category = 1 then K (pc + 1) ls (v :: v :: r) M else none
    | _ => none
  | .dup2 => match st with
    | v :: w :: r => if v.category = 1 ∧ w.category = 1 then K (pc + 1) ls (v :: w :: v :: w :: r) M else none
    | _ => none
  | .pop => match st with
    | v :: r => if v.category = 1 then K (pc + 1) ls r M else none
    | _ => none
  | _ => none
def am_s1 (K : am_K) (i : Instr) (pc : Nat) (ls st : List Value) (M : am_M) : am_Res :=
  match i with
  | .iadd => match st with
    | .int y :: .int x :: r => K (pc + 1) ls (.int (x + y) :: r) M
    | _ => none
  | .isub => match st with
    | .int y :: .int x :: r => K (pc + 1) ls (.int (x - y) :: r) M
    | _ => none
  | .imul => match st with
    | .int y :: .int x :: r => K (pc + 1) ls (.int (x * y) :: r) M
    | _ => none
  | .idiv => match st with
    | .int y :: .int x :: r => if y = 0 then none else K (pc + 1) ls (.int (x / y) :: r) M
    | _ => none
  | .irem => match st with
    | .int y :: .int x :: r => if y = 0 then none else K (pc + 1) ls (.int (x - x / y * y) :: r) M
    | _ => none
  | .ineg => match st with
    | .int x :: r => K (pc + 1) ls (.int (-x) :: r) M
    | _ => none
  | .iand => match st with
    | .int y :: .int x :: r => K (pc + 1) ls (.int (x &&& y) :: r) M
    | _ => none
  | .ixor => match st with
    | .int y :: .int x :: r => K (pc + 1) ls (.int (x ^^^ y) :: r) M
    | _ => none
  | .iushr => match st with
    | .int y :: .int x :: r => K (pc + 1) ls (.int ((x.toUInt32 >>> (y.toUInt32 &&& Int32.toUInt32 31)).toInt32) :: r) M
    | _ => none
  | .lushr => match st with
    | .int y :: .long x :: r => K (pc + 1) ls (.long ((x.toUInt64 >>> (y.toInt64.toUInt64 &&& Int64.toUInt64 63)).toInt64) :: r) M
    | _ => none
  | .lshr => match st with
    | .int y :: .long x :: r => K (pc + 1) ls (.long (x >>> (y.toInt64 &&& 63)) :: r) M
    | _ => none
  | .land => match st with
    | .long y :: .long x :: r => K (pc + 1) ls (.long (x &&& y) :: r) M
    | _ => none
  | .l2i => match st with
    | .long x :: r => K (pc + 1) ls (.int x.toInt32 :: r) M
    | _ => none
  | .i2l => match st with
    | .int x :: r => K (pc + 1) ls (.long x.toInt64 :: r) M
    | _ => none
  | .i2b => match st with
    | .int x :: r => K (pc + 1) ls (.int x.toInt8.toInt32 :: r) M
    | _ => none
  | .i2s => match st with
    | .int x :: r => K (pc + 1) ls (.int x.toInt16.toInt32 :: r) M
    | _ => none
  | .lcmp => match st with
    | .long y :: .long x :: r => K (pc + 1) ls (.int (lg_cmp x y) :: r) M
    | _ => none
  | _ => none
def am_s2 (K : am_K) (i : Instr) (rs : List Int) (pc : Nat) (ls st : List Value) (M : am_M) : am_Res :=
  match i with
  | .goto _ => K (rs.headD 0).toNat ls st M
  | .ifCond c _ => match st with
    | .int x :: r => match c with
      | .eq => if x = 0 then K (rs.headD 0).toNat ls r M else K (pc + 3) ls r M
      | .ne => if x = 0 then K (pc + 3) ls r M else K (rs.headD 0).toNat ls r M
      | .lt => if x < 0 then K (rs.headD 0).toNat ls r M else K (pc + 3) ls r M
      | .ge => if x < 0 then K (pc + 3) ls r M else K (rs.headD 0).toNat ls r M
      | .gt => if x ≤ 0 then K (pc + 3) ls r M else K (rs.headD 0).toNat ls r M
      | .le => if x ≤ 0 then K (rs.headD 0).toNat ls r M else K (pc + 3) ls r M
    | _ => none
  | .if_icmp c _ => match st with
    | .int y :: .int x :: r => match c with
      | .eq => if x = y then K (rs.headD 0).toNat ls r M else K (pc + 3) ls r M
      | .ne => if x = y then K (pc + 3) ls r M else K (rs.headD 0).toNat ls r M
      | .lt => if x < y then K (rs.headD 0).toNat ls r M else K (pc + 3) ls r M
      | .ge => if x < y then K (pc + 3) ls r M else K (rs.headD 0).toNat ls r M
      | .gt => if x ≤ y then K (pc + 3) ls r M else K (rs.headD 0).toNat ls r M
      | .le => if x ≤ y then K (rs.headD 0).toNat ls r M else K (pc + 3) ls r M
    | _ => none
  | .tableswitch _ lo _ _ => match st with
    | .int x :: r => match rs with
      | d :: t => am_ts x (fun q => K q ls r M) d lo t
      | _ => none
    | _ => none
  | .lookupswitch _ _ => match st with
    | .int x :: r => match rs with
      | d :: t => am_ls x (fun q => K q ls r M) d t
      | _ => none
    | _ => none
  | _ => none
noncomputable def am_s3 (K : am_K) (i : Instr) (rs : List Int) (pc : Nat) (ls st : List Value) (M : am_M) : am_Res :=
  match i with
  | .getfield _ => match st, rs with
    | .ref a :: r, [ci, k, _, _] => match shp a with
      | (0, c, fs) => if c = ci.toNat then (match fs[k.toNat]? with
        | some 0 => K (pc + 3) ls (.int (M a k.toNat) :: r) M
        | some (f + 1) => K (pc + 3) ls (.ref f :: r) M
        | none => none) else none
      | _ => none
    | _, _ => none
  | .putfield _ => match st, rs with
    | .int x :: .ref a :: r, [ci, k, _, z] => match shp a with
      | (0, c, fs) => if c = ci.toNat then (match fs[k.toNat]? with
        | some 0 => (match z with
          | 0 => K (pc + 3) ls r (am_up M a k.toNat x)
          | _ => if x = 0 ∨ x = 1 then K (pc + 3) ls r (am_up M a k.toNat x) else none)
        | _ => none) else none
      | _ => none
    | _, _ => none
  | .getstatic _ => match rs with
    | [a, _] => K (pc + 3) ls (.ref a.toNat :: st) M
    | _ => none
  | .iaload => match st with
    | .int j :: .ref a :: r => match shp a with
      | (1, n, _) => if j < 0 ∨ n ≤ j.toNatClampNeg then none else K (pc + 1) ls (.int (M a j.toNatClampNeg) :: r) M
      | (5, n, _) => if j < 0 ∨ n ≤ j.toNatClampNeg then none else K (pc + 1) ls (.int (am_sta a j.toNatClampNeg) :: r) M
      | _ => none
    | _ => none
  | .iastore => match st with
    | .int x :: .int j :: .ref a :: r => match shp a with
      | (1, n, _) => if j < 0 ∨ n ≤ j.toNatClampNeg then none else K (pc + 1) ls r (am_up M a j.toNatClampNeg x)
      | _ => none
    | _ => none
  | .baload => match st with
    | .int j :: .ref a :: r => match shp a with
      | (2, n, _) => if j < 0 ∨ n ≤ j.toNatClampNeg then none else K (pc + 1) ls (.int (M a j.toNatClampNeg) :: r) M
      | _ => none
    | _ => none
  | .bastore => match st with
    | .int x :: .int j :: .ref a :: r => match shp a with
      | (2, n, _) => if j < 0 ∨ n ≤ j.toNatClampNeg then none else K (pc + 1) ls r (am_up M a j.toNatClampNeg (vp_nar .boolean x))
      | _ => none
    | _ => none
  | .aaload => match st with
    | .int j :: .ref a :: r => match shp a with
      | (3, n, fs) => if j < 0 ∨ n ≤ j.toNatClampNeg then none else K (pc + 1) ls (.ref (fs.getD j.toNatClampNeg 0) :: r) M
      | (4, n, fs) => if j < 0 ∨ n ≤ j.toNatClampNeg then none else K (pc + 1) ls (.ref (fs.getD j.toNatClampNeg 0) :: r) M
      | _ => none
    | _ => none
  | .arraylength => match st with
    | .ref a :: r => match shp a with
      | (1, n, _) => K (pc + 1) ls (.int (nI n) :: r) M
      | (5, n, _) => K (pc + 1) ls (.int (nI n) :: r) M
      | _ => none
    | _ => none
  | _ => none
def am_cat (st : List Value) : Nat := (st.map fun v => v.category).sum
noncomputable def am_s4 (C : am_H) (K : am_K) (i : Instr) (rs : List Int) (pc : Nat) (ls st : List Value) (M : am_M) : am_Res :=
  match i with
  | .invokestatic _ => match rs with
    | [0, n, mid] => if n.toNat ≤ st.length ∧ am_cat (st.drop n.toNat) ≤ 8 then (C mid.toNat (st.take n.toNat).reverse M).bind (fun q => K (pc + 3) ls (q.1.toList ++ st.drop n.toNat) q.2) else none
    | [1] => match st with
      | .int y :: .int x :: r => if am_cat r ≤ 8 then K (pc + 3) ls (.int (if x < y then y else x) :: r) M else none
      | _ => none
    | [2] => match st with
      | .int y :: .int x :: r => if am_cat r ≤ 8 then K (pc + 3) ls (.int (if y < x then y else x) :: r) M else none
      | _ => none
    | [3] => match st with
      | .int n :: .int dp :: .ref a :: .int sp :: .ref b :: r => match shp b, shp a with
        | (1, n0, _), (1, n1, _) => if am_cat r ≤ 8 ∧ ¬ sp < 0 ∧ ¬ dp < 0 ∧ ¬ n < 0 ∧ sp.toNatClampNeg + n.toNatClampNeg ≤ n0 ∧ dp.toNatClampNeg + n.toNatClampNeg ≤ n1 then K (pc + 3) ls r (am_setc M a (va_cpy (M b) (M a) sp.toNatClampNeg dp.toNatClampNeg n.toNatClampNeg)) else none
        | _, _ => none
      | _ => none
    | _ => none
  | .invokevirtual _ => match rs with
    | n :: ps => match st.drop n.toNat with
      | .ref t :: r => match shp t with
        | (0, ci, _) => match am_lk ci ps with
          | some mid => if n.toNat ≤ st.length ∧ am_cat r ≤ 8 then (C mid (.ref t :: (st.take n.toNat).reverse) M).bind (fun q => K (pc + 3) ls (q.1.toList ++ r) q.2) else none
          | none => none
        | _ => none
      | _ => none
    | _ => none
  | .invokespecial _ => match rs with
    | [n, mid, _] => match st.drop n.toNat with
      | .ref t :: r => match shp t with
        | (0, _, _) => if n.toNat ≤ st.length ∧ am_cat r ≤ 8 then (C mid.toNat (.ref t :: (st.take n.toNat).reverse) M).bind (fun q => K (pc + 3) ls (q.1.toList ++ r) q.2) else none
        | _ => none
      | _ => none
    | _ => none
  | _ => none
def am_s5 (i : Instr) (rt : Option FieldType) (st : List Value) (M : am_M) : am_Res :=
  match i with
  | .ireturn => match rt, st with
    | some .int, [.int x] => some (some (.int x), M)
    | some .boolean, [.int x] => if x = 0 ∨ x = 1 then some (some (.int x), M) else none
    | _, _ => none
  | .areturn => match rt, st with
    | some (.object _), [.ref a] => some (some (.ref a), M)
    | _, _ => none
  | .return_ => match rt, st with
    | none, [] => some (none, M)
    | _, _ => none
  | _ => none
noncomputable def am_stp (C : am_H) (K : am_K) (rt : Option FieldType) (e : Option am_E) (pc : Nat) (ls st : List Value) (M : am_M) : am_Res := match e with
  | none => none
  | some (g, i, _, rs, _) => match g with
    | 0 => am_s0 K i rs pc ls st M
    | 1 => am_s1 K i pc ls st M
    | 2 => am_s2 K i rs pc ls st M
    | 3 => am_s3 K i rs pc ls st M
    | 4 => am_s4 C K i rs pc ls st M
    | 5 => am_s5 i rt st M
    | _ => none
noncomputable def am_run (C : am_H) (rt : Option FieldType) (tb : Nat → Option am_E) : Nat → am_K
  | 0 => fun _ _ _ _ => none
  | n + 1 => fun pc ls st M => am_stp C (am_run C rt tb n) rt (tb pc) pc ls st M
/-- the run to its end, if it has one -/
noncomputable def am_lim (C : am_H) (rt : Option FieldType) (tb : Nat → Option am_E) : am_K := fun pc ls st M =>
  @dite _ (∃ n, am_run C rt tb n pc ls st M ≠ none) (Classical.propDecidable _) (fun h => am_run C rt tb (Classical.choose h) pc ls st M) (fun _ => none)
/-- a step uses what comes behind it at one point at most -/
def am_pt (f : am_K → am_Res) : Prop := ∀ (K : am_K) (r : Option Value × am_M), f K = some r → (∀ K', f K' = some r) ∨ ∃ a b c d, K a b c d = some r ∧ ∀ K' : am_K, K' a b c d = some r → f K' = some r
theorem am_pt_K (a : Nat) (b c : List Value) (d : am_M) : am_pt (fun K => K a b c d) := fun K r h => Or.inr ⟨a, b, c, d, h, fun _ h => h⟩
theorem am_pt_n : am_pt (fun _ => none) := fun K r h => by cases h
theorem am_pt_c (x : am_Res) : am_pt (fun _ => x) := fun K r h => Or.inl fun _ => h
theorem am_pt_ite {c : Prop} {i : Decidable c} {f g : am_K → am_Res} (hf : am_pt f) (hg : am_pt g) : am_pt (fun K => @ite _ c i (f K) (g K)) := by
  by_cases h : c
  · simp only [if_pos h]; exact hf
  · simp only [if_neg h]; exact hg
theorem am_pt_bind {x : am_Res} {f : Option Value × am_M → am_K → am_Res} (hf : ∀ q, am_pt (f q)) : am_pt (fun K => x.bind (fun q => f q K)) := by
  cases x with
  | none => exact am_pt_n
  | some q => exact hf q
theorem am_pt_0 (i : Instr) (rs : List Int) (pc : Nat) (ls st : List Value) (M : am_M) : am_pt (fun K => am_s0 K i rs pc ls st M) := by
  unfold am_s0
  split <;> (try split) <;> first | exact am_pt_n | exact am_pt_K _ _ _ _ | exact am_pt_ite (am_pt_K _ _ _ _) am_pt_n
theorem am_pt_1 (i : Instr) (pc : Nat) (ls st : List Value) (M : am_M) : am_pt (fun K => am_s1 K i pc ls st M) := by
  unfold am_s1
  split <;> (try split) <;> first | exact am_pt_n | exact am_pt_K _ _ _ _ | exact am_pt_ite am_pt_n (am_pt_K _ _ _ _)
theorem am_pt_ts (x : Int32) (ls r : List Value) (M : am_M) (d : Int) : ∀ (t : List Int) (k : Int), am_pt (fun K => am_ts x (fun q => K q ls r M) d k t)
  | [], _ => am_pt_K _ _ _ _
  | _ :: t, k => am_pt_ite (am_pt_K _ _ _ _) (am_pt_ts x ls r M d t (k + 1))
theorem am_pt_ls (x : Int32) (ls r : List Value) (M : am_M) (d : Int) : ∀ (t : List Int), am_pt (fun K => am_ls x (fun q => K q ls r M) d t)
  | [] => am_pt_K _ _ _ _
  | [_] => am_pt_K _ _ _ _
  | _ :: _ :: t => am_pt_ite (am_pt_K _ _ _ _) (am_pt_ls x ls r M d t)
theorem am_pt_2 (i : Instr) (rs : List Int) (pc : Nat) (ls st : List Value) (M : am_M) : am_pt (fun K => am_s2 K i rs pc ls st M) := by
  unfold am_s2
  split <;> (try split) <;> (try split) <;> first | exact am_pt_n | exact am_pt_K _ _ _ _ | exact am_pt_ite (am_pt_K _ _ _ _) (am_pt_K _ _ _ _) | exact am_pt_ts _ _ _ _ _ _ _ | exact am_pt_ls _ _ _ _ _ _
theorem am_pt_3 (i : Instr) (rs : List Int) (pc : Nat) (ls st : List Value) (M : am_M) : am_pt (fun K => am_s3 K i rs pc ls st M) := by
  unfold am_s3
  split <;> (try split) <;> (try split) <;> (try split) <;> (try split) <;> (try split) <;> first | exact am_pt_n | exact am_pt_K _ _ _ _ | exact am_pt_ite am_pt_n (am_pt_K _ _ _ _) | exact am_pt_ite (am_pt_K _ _ _ _) am_pt_n
theorem am_pt_4 (C : am_H) (i : Instr) (rs : List Int) (pc : Nat) (ls st : List Value) (M : am_M) : am_pt (fun K => am_s4 C K i rs pc ls st M) := by
  unfold am_s4
  split <;> (try split) <;> (try split) <;> (try split) <;> (try split) <;> first | exact am_pt_n | exact am_pt_K _ _ _ _ | exact am_pt_ite (am_pt_K _ _ _ _) am_pt_n | exact am_pt_ite (am_pt_bind fun _ => am_pt_K _ _ _ _) am_pt_n | exact am_pt_bind fun _ => am_pt_K _ _ _ _
theorem am_pt_s (C : am_H) (rt : Option FieldType) (e : Option am_E) (pc : Nat) (ls st : List Value) (M : am_M) : am_pt (fun K => am_stp C K rt e pc ls st M) := by
  unfold am_stp
  split
  · exact am_pt_n
  · split
    · exact am_pt_0 _ _ _ _ _ _
    · exact am_pt_1 _ _ _ _ _
    · exact am_pt_2 _ _ _ _ _ _
    · exact am_pt_3 _ _ _ _ _ _
    · exact am_pt_4 _ _ _ _ _ _ _
    · exact am_pt_c _
    · exact am_pt_n
theorem am_run_mono (C : am_H) (rt : Option FieldType) (tb : Nat → Option am_E) : ∀ (n : Nat) (pc : Nat) (ls st : List Value) (M : am_M) (r), am_run C rt tb n pc ls st M = some r → am_run C rt tb (n + 1) pc ls st M = some r
  | 0, _, _, _, _, _, h => by cases h
  | n + 1, pc, ls, st, M, r, h => by
    rcases am_pt_s C rt (tb pc) pc ls st M (am_run C rt tb n) r h with h1 | ⟨a, b, c, d, h1, h2⟩
    · exact h1 _
    · exact h2 _ (am_run_mono C rt tb n a b c d r h1)
theorem am_run_le (C : am_H) (rt : Option FieldType) (tb : Nat → Option am_E) {n k : Nat} (hk : n ≤ k) {pc : Nat} {ls st : List Value} {M : am_M} {r} (h : am_run C rt tb n pc ls st M = some r) : am_run C rt tb k pc ls st M = some r := by
  induction hk with
  | refl => exact h
  | step _ ih => exact am_run_mono C rt tb _ _ _ _ _ _ ih
theorem am_lim_iff (C : am_H) (rt : Option FieldType) (tb : Nat → Option am_E) (pc : Nat) (ls st : List Value) (M : am_M) (r) : am_lim C rt tb pc ls st M = some r ↔ ∃ n, am_run C rt tb n pc ls st M = some r := by
  unfold am_lim
  by_cases h : ∃ n, am_run C rt tb n pc ls st M ≠ none
  · rw [dif_pos h]
    constructor
    · exact fun e => ⟨_, e⟩
    · rintro ⟨n, hn⟩
      have h0 := Classical.choose_spec h
      cases hq : am_run C rt tb (Classical.choose h) pc ls st M with
      | none => exact absurd hq h0
      | some q =>
        have h1 := am_run_le C rt tb (Nat.le_max_left n (Classical.choose h)) hn
        have h2 := am_run_le C rt tb (Nat.le_max_right n (Classical.choose h)) hq
        exact h2.symm.trans h1
  · rw [dif_neg h]
    constructor
    · intro e; cases e
    · rintro ⟨n, hn⟩
      exact absurd ⟨n, by rw [hn]; exact fun e => by cases e⟩ h
theorem am_lim_eq (C : am_H) (rt : Option FieldType) (tb : Nat → Option am_E) (pc : Nat) (ls st : List Value) (M : am_M) : am_lim C rt tb pc ls st M = am_stp C (am_lim C rt tb) rt (tb pc) pc ls st M := by
  refine Option.ext fun r => ⟨fun h => ?_, fun h => ?_⟩
  · obtain ⟨n, hn⟩ := (am_lim_iff C rt tb pc ls st M r).mp h
    cases n with
    | zero => cases hn
    | succ n =>
      rcases am_pt_s C rt (tb pc) pc ls st M (am_run C rt tb n) r hn with h1 | ⟨a, b, c, d, h1, h2⟩
      · exact h1 _
      · exact h2 _ ((am_lim_iff C rt tb a b c d r).mpr ⟨n, h1⟩)
  · rcases am_pt_s C rt (tb pc) pc ls st M (am_lim C rt tb) r h with h1 | ⟨a, b, c, d, h1, h2⟩
    · exact (am_lim_iff C rt tb pc ls st M r).mpr ⟨1, h1 _⟩
    · obtain ⟨n, hn⟩ := (am_lim_iff C rt tb a b c d r).mp h1
      exact (am_lim_iff C rt tb pc ls st M r).mpr ⟨n + 1, h2 _ hn⟩
/-- several steps at once -/
noncomputable def am_it (C : am_H) (rt : Option FieldType) (tb : Nat → Option am_E) (K : am_K) : Nat → am_K
  | 0 => K
  | n + 1 => fun pc ls st M => am_stp C (am_it C rt tb K n) rt (tb pc) pc ls st M
theorem am_lim_it (C : am_H) (rt : Option FieldType) (tb : Nat → Option am_E) : ∀ n : Nat, am_it C rt tb (am_lim C rt tb) n = am_lim C rt tb
  | 0 => rfl
  | n + 1 => by
    funext pc ls st M
    show am_stp C (am_it C rt tb (am_lim C rt tb) n) rt (tb pc) pc ls st M = _
    rw [am_lim_it C rt tb n, ← am_lim_eq]
theorem am_go (n : Nat) {C : am_H} {rt : Option FieldType} {tb : Nat → Option am_E} {pc : Nat} {ls st : List Value} {M : am_M} {r : am_Res} (h : am_it C rt tb (am_lim C rt tb) n pc ls st M = r) : am_lim C rt tb pc ls st M = r := by
  rw [← h, am_lim_it]
def am_ent : List Value → List Value
  | [] => []
  | v :: r => if v.category = 2 then v :: .null :: am_ent r else v :: am_ent r
def am_pad (ls : List Value) (n : Nat) : List Value := ls ++ List.replicate (n - ls.length) .null
