/-! the law's loop -/
set_option maxRecDepth 20000 in
theorem lc_dts : decode code 33 = .ok (.tableswitch (1364) 0 36 #[163, 186, 229, 262, 295, 328, 361, 394, 427, 450, 513, 536, 589, 612, 635, 678, 721, 734, 747, 800, 833, 866, 919, 962, 985, 1028, 1051, 1094, 1137, 1200, 1223, 1256, 1269, 1282, 1305, 1318, 1341], 163) := by decide +kernel
section LCL
variable {p : Program} {l : Launch} {e : Env} {s : State} {m : MethodId} {b : Nat} {below : List Frame} {meth : Method} {c : Code} {H : Heap} {locs : List Loc} {cells slots : Nat} {Q : State → Prop} {ls : Array Slot} {rest : List Value} {L : Nat} {xs : Nat → Int32} {ad : Nat → Nat} {D : va_G} {c4 : am_T4}
theorem lc_ge {L k : Nat} (hL : L ≤ 3072) (hk : k ≤ L) (h : ¬ Int32.ofNat L - 6 < nI k) : k + 6 ≤ L := by
  by_cases h6 : 6 ≤ L
  · obtain ⟨a, rfl⟩ : ∃ a, L = a + 6 := ⟨L - 6, by omega⟩
    have e : Int32.ofNat (a + 6) - 6 = nI a := by
      have e1 : Int32.ofNat (a + 6) = nI a + 6 := (nI_add a 6).symm
      rw [e1, Int32.add_sub_cancel]
    rw [e, nI_ltI (by omega) (by omega)] at h
    omega
  · exfalso
    refine h ?_
    rw [i32_lt, nI_toInt (by omega)]
    have e : (Int32.ofNat L - 6).toInt < 0 := by
      have h5 : L < 6 := by omega
      have all : ∀ j, j < 6 → (Int32.ofNat j - 6).toInt < 0 := by decide +kernel
      exact all L h5
    omega
set_option maxRecDepth 20000 in
theorem lc_body (X : lc_C p s m meth c b L xs ad D c4) (hL : L ≤ 3072) {k : Nat} (hkL : k ≤ L) (hcell : cells ≤ 1000 ∧ slots ≤ 10000) (hl : lv_has ls 4 (lc_l ad b k)) {M : am_M} (hI : IV M M) (hP : va_P D vwCl (am_w ad c4 M) H) (hS : va_S (lc_A s) s.heap H locs) (kk : k + 6 ≤ L → ∀ (M2 : am_M) (H1 : Heap) (locs1 : List Loc), IV M2 M2 → va_P D vwCl (am_w ad c4 M2) H1 → va_S (lc_A s) s.heap H1 locs1 → W p l e room_1 s m #[Value.ref b] below meth c H1 locs1 cells slots (lw_Z below #[Value.ref b] s) (F0 m 1397 ls [])) :
    W p l e room_1 s m #[Value.ref b] below meth c H locs cells slots (lw_Z below #[Value.ref b] s) (F0 m 18 ls []) := by
  have XX := X
  obtain ⟨⟨hx, hb, hr, hml, hown, hts, hX, hbl, hlk, hgv⟩, -⟩ := X
  refine lv_iload_n hx hb (show decode code 18 = .ok (.iload_n 3, 1) by decide +kernel) rfl (lv_at hl 0 rfl) ?_
  refine lv_aload_n hx hb (show decode code 19 = .ok (.aload_n 0, 1) by decide +kernel) rfl (lv_at hl 3 rfl) ?_
  refine va_slen (A := lc_A s) hx hb hX hbl (Nat.not_le.mpr hbl) hS (show decode code 20 = .ok (.arraylength, 1) by decide +kernel) ?_
  refine lv_bipush (v := 6) hx hb (show decode code 21 = .ok (.bipush 6, 2) by decide +kernel) (by decide +kernel) ?_
  refine lv_isub hx hb (show decode code 23 = .ok (.isub, 1) by decide +kernel) ?_
  refine lv_icmp_gt (tgt := 1403) hx hb (show decode code 24 = .ok (.if_icmp .gt 1379, 3) by decide +kernel) (by decide) (fun h => ?_) (fun h => ?_)
  · refine lv_iconst (v := 1) hx hb (show decode code 1403 = .ok (.iconst 1, 1) by decide +kernel) (by decide +kernel) ?_
    refine W.widen (k := 600000) (n := 7302250) (by omega) (by omega) ?_
    refine va_forget hS.2.2 ?_
    exact lw_ret hx hb hr hlk (show decode code 1404 = .ok (.ireturn, 1) by decide +kernel)
  · have hk := lc_ge hL hkL h
    refine lv_aload_n hx hb (show decode code 27 = .ok (.aload_n 0, 1) by decide +kernel) rfl (lv_at hl 3 rfl) ?_
    refine lv_iload_n hx hb (show decode code 28 = .ok (.iload_n 3, 1) by decide +kernel) rfl (lv_at hl 0 rfl) ?_
    refine va_sld (A := lc_A s) hx hb hX hbl (Nat.not_le.mpr hbl) hS (nI_in (c := k) (by omega) (by omega)) (show decode code 29 = .ok (.iaload, 1) by decide +kernel) ?_
    refine lv_bipush (v := 63) hx hb (show decode code 30 = .ok (.bipush 63, 2) by decide +kernel) (by decide +kernel) ?_
    refine lv_iand hx hb (show decode code 32 = .ok (.iand, 1) by decide +kernel) ?_
    refine lv_topi (fun v ev => ?_)
    by_cases ho : v.toInt < 0 ∨ 36 < v.toInt
    · exact lv_tableOut (tgt := 1397) hx hb lc_dts ho (by decide) (kk hk M H locs hI hP hS)
    · obtain ⟨j, hj, hv⟩ : ∃ j : Nat, j < 37 ∧ v.toInt = (j : Int) := ⟨v.toInt.toNat, by omega, by omega⟩
      refine fr_all_of (P := fun j => v.toInt = (j : Int) → W p l e room_1 s m #[Value.ref b] below meth c H locs cells slots (lw_Z below #[Value.ref b] s) (F0 m 33 ls [.int v])) 37 ?_ j hj hv
      have g := kk hk
      exact ⟨fun hv => lv_tableIn (off := 1341) (tgt := 1374) hx hb lc_dts (by rw [hv]; decide) (by rw [hv]; decide) (by rw [hv]; rfl) (by decide) (lc_s36 XX hL hk hcell hl hI hP hS g),
        fun hv => lv_tableIn (off := 1318) (tgt := 1351) hx hb lc_dts (by rw [hv]; decide) (by rw [hv]; decide) (by rw [hv]; rfl) (by decide) (lc_s35 XX hL hk hcell hl hI hP hS g),
        fun hv => lv_tableIn (off := 1305) (tgt := 1338) hx hb lc_dts (by rw [hv]; decide) (by rw [hv]; decide) (by rw [hv]; rfl) (by decide) (lc_s34 XX hL hk hcell hl hI hP hS g),
        fun hv => lv_tableIn (off := 1282) (tgt := 1315) hx hb lc_dts (by rw [hv]; decide) (by rw [hv]; decide) (by rw [hv]; rfl) (by decide) (lc_s33 XX hL hk hcell hl hI hP hS g),
        fun hv => lv_tableIn (off := 1269) (tgt := 1302) hx hb lc_dts (by rw [hv]; decide) (by rw [hv]; decide) (by rw [hv]; rfl) (by decide) (lc_s32 XX hL hk hcell hl hI hP hS g),
        fun hv => lv_tableIn (off := 1256) (tgt := 1289) hx hb lc_dts (by rw [hv]; decide) (by rw [hv]; decide) (by rw [hv]; rfl) (by decide) (lc_s31 XX hL hk hcell hl hI hP hS g),
        fun hv => lv_tableIn (off := 1223) (tgt := 1256) hx hb lc_dts (by rw [hv]; decide) (by rw [hv]; decide) (by rw [hv]; rfl) (by decide) (lc_s30 XX hL hk hcell hl hI hP hS g),
        fun hv => lv_tableIn (off := 1200) (tgt := 1233) hx hb lc_dts (by rw [hv]; decide) (by rw [hv]; decide) (by rw [hv]; rfl) (by decide) (lc_s29 XX hL hk hcell hl hI hP hS g),
        fun hv => lv_tableIn (off := 1137) (tgt := 1170) hx hb lc_dts (by rw [hv]; decide) (by rw [hv]; decide) (by rw [hv]; rfl) (by decide) (lc_s28 XX hL hk hcell hl hI hP hS g),
        fun hv => lv_tableIn (off := 1094) (tgt := 1127) hx hb lc_dts (by rw [hv]; decide) (by rw [hv]; decide) (by rw [hv]; rfl) (by decide) (lc_s27 XX hL hk hcell hl hI hP hS g),
        fun hv => lv_tableIn (off := 1051) (tgt := 1084) hx hb lc_dts (by rw [hv]; decide) (by rw [hv]; decide) (by rw [hv]; rfl) (by decide) (lc_s26 XX hL hk hcell hl hI hP hS g),
        fun hv => lv_tableIn (off := 1028) (tgt := 1061) hx hb lc_dts (by rw [hv]; decide) (by rw [hv]; decide) (by rw [hv]; rfl) (by decide) (lc_s25 XX hL hk hcell hl hI hP hS g),
        fun hv => lv_tableIn (off := 985) (tgt := 1018) hx hb lc_dts (by rw [hv]; decide) (by rw [hv]; decide) (by rw [hv]; rfl) (by decide) (lc_s24 XX hL hk hcell hl hI hP hS g),
        fun hv => lv_tableIn (off := 962) (tgt := 995) hx hb lc_dts (by rw [hv]; decide) (by rw [hv]; decide) (by rw [hv]; rfl) (by decide) (lc_s23 XX hL hk hcell hl hI hP hS g),
        fun hv => lv_tableIn (off := 919) (tgt := 952) hx hb lc_dts (by rw [hv]; decide) (by rw [hv]; decide) (by rw [hv]; rfl) (by decide) (lc_s22 XX hL hk hcell hl hI hP hS g),
        fun hv => lv_tableIn (off := 866) (tgt := 899) hx hb lc_dts (by rw [hv]; decide) (by rw [hv]; decide) (by rw [hv]; rfl) (by decide) (lc_s21 XX hL hk hcell hl hI hP hS g),
        fun hv => lv_tableIn (off := 833) (tgt := 866) hx hb lc_dts (by rw [hv]; decide) (by rw [hv]; decide) (by rw [hv]; rfl) (by decide) (lc_s20 XX hL hk hcell hl hI hP hS g),
        fun hv => lv_tableIn (off := 800) (tgt := 833) hx hb lc_dts (by rw [hv]; decide) (by rw [hv]; decide) (by rw [hv]; rfl) (by decide) (lc_s19 XX hL hk hcell hl hI hP hS g),
        fun hv => lv_tableIn (off := 747) (tgt := 780) hx hb lc_dts (by rw [hv]; decide) (by rw [hv]; decide) (by rw [hv]; rfl) (by decide) (lc_s18 XX hL hk hcell hl hI hP hS g),
        fun hv => lv_tableIn (off := 734) (tgt := 767) hx hb lc_dts (by rw [hv]; decide) (by rw [hv]; decide) (by rw [hv]; rfl) (by decide) (lc_s17 XX hL hk hcell hl hI hP hS g),
        fun hv => lv_tableIn (off := 721) (tgt := 754) hx hb lc_dts (by rw [hv]; decide) (by rw [hv]; decide) (by rw [hv]; rfl) (by decide) (lc_s16 XX hL hk hcell hl hI hP hS g),
        fun hv => lv_tableIn (off := 678) (tgt := 711) hx hb lc_dts (by rw [hv]; decide) (by rw [hv]; decide) (by rw [hv]; rfl) (by decide) (lc_s15 XX hL hk hcell hl hI hP hS g),
        fun hv => lv_tableIn (off := 635) (tgt := 668) hx hb lc_dts (by rw [hv]; decide) (by rw [hv]; decide) (by rw [hv]; rfl) (by decide) (lc_s14 XX hL hk hcell hl hI hP hS g),
        fun hv => lv_tableIn (off := 612) (tgt := 645) hx hb lc_dts (by rw [hv]; decide) (by rw [hv]; decide) (by rw [hv]; rfl) (by decide) (lc_s13 XX hL hk hcell hl hI hP hS g),
        fun hv => lv_tableIn (off := 589) (tgt := 622) hx hb lc_dts (by rw [hv]; decide) (by rw [hv]; decide) (by rw [hv]; rfl) (by decide) (lc_s12 XX hL hk hcell hl hI hP hS g),
        fun hv => lv_tableIn (off := 536) (tgt := 569) hx hb lc_dts (by rw [hv]; decide) (by rw [hv]; decide) (by rw [hv]; rfl) (by decide) (lc_s11 XX hL hk hcell hl hI hP hS g),
        fun hv => lv_tableIn (off := 513) (tgt := 546) hx hb lc_dts (by rw [hv]; decide) (by rw [hv]; decide) (by rw [hv]; rfl) (by decide) (lc_s10 XX hL hk hcell hl hI hP hS g),
        fun hv => lv_tableIn (off := 450) (tgt := 483) hx hb lc_dts (by rw [hv]; decide) (by rw [hv]; decide) (by rw [hv]; rfl) (by decide) (lc_s9 XX hL hk hcell hl hI hP hS g),
        fun hv => lv_tableIn (off := 427) (tgt := 460) hx hb lc_dts (by rw [hv]; decide) (by rw [hv]; decide) (by rw [hv]; rfl) (by decide) (lc_s8 XX hL hk hcell hl hI hP hS g),
        fun hv => lv_tableIn (off := 394) (tgt := 427) hx hb lc_dts (by rw [hv]; decide) (by rw [hv]; decide) (by rw [hv]; rfl) (by decide) (lc_s7 XX hL hk hcell hl hI hP hS g),
        fun hv => lv_tableIn (off := 361) (tgt := 394) hx hb lc_dts (by rw [hv]; decide) (by rw [hv]; decide) (by rw [hv]; rfl) (by decide) (lc_s6 XX hL hk hcell hl hI hP hS g),
        fun hv => lv_tableIn (off := 328) (tgt := 361) hx hb lc_dts (by rw [hv]; decide) (by rw [hv]; decide) (by rw [hv]; rfl) (by decide) (lc_s5 XX hL hk hcell hl hI hP hS g),
        fun hv => lv_tableIn (off := 295) (tgt := 328) hx hb lc_dts (by rw [hv]; decide) (by rw [hv]; decide) (by rw [hv]; rfl) (by decide) (lc_s4 XX hL hk hcell hl hI hP hS g),
        fun hv => lv_tableIn (off := 262) (tgt := 295) hx hb lc_dts (by rw [hv]; decide) (by rw [hv]; decide) (by rw [hv]; rfl) (by decide) (lc_s3 XX hL hk hcell hl hI hP hS g),
        fun hv => lv_tableIn (off := 229) (tgt := 262) hx hb lc_dts (by rw [hv]; decide) (by rw [hv]; decide) (by rw [hv]; rfl) (by decide) (lc_s2 XX hL hk hcell hl hI hP hS g),
        fun hv => lv_tableIn (off := 186) (tgt := 219) hx hb lc_dts (by rw [hv]; decide) (by rw [hv]; decide) (by rw [hv]; rfl) (by decide) (lc_s1 XX hL hk hcell hl hI hP hS g),
        fun hv => lv_tableIn (off := 163) (tgt := 196) hx hb lc_dts (by rw [hv]; decide) (by rw [hv]; decide) (by rw [hv]; rfl) (by decide) (lc_s0 XX hL hk hcell hl hI hP hS g), trivial⟩
theorem lc_loop (X : lc_C p s m meth c b L xs ad D c4) (hL : L ≤ 3072) (hcell : cells ≤ 1000 ∧ slots ≤ 10000) : ∀ (n k : Nat) (M : am_M) (H : Heap) (locs : List Loc) (ls : Array Slot), L ≤ k + n → k ≤ L → lv_has ls 4 (lc_l ad b k) → IV M M → va_P D vwCl (am_w ad c4 M) H → va_S (lc_A s) s.heap H locs →
    W p l e room_1 s m #[Value.ref b] below meth c H locs cells slots (lw_Z below #[Value.ref b] s) (F0 m 18 ls []) := by
  intro n
  induction n with
  | zero =>
    intro k M H locs ls hn hk hl hI hP hS
    exact lc_body X hL hk hcell hl hI hP hS (fun h => by omega)
  | succ n ih =>
    intro k M H locs ls hn hk hl hI hP hS
    refine lc_body X hL hk hcell hl hI hP hS (fun h M2 H1 locs1 hI2 hP2 hS2 => ?_)
    have hx := X.1.1
    have hb := X.1.2.1
    refine lv_iinc (i := 3) (v := nI (k + 6)) (lv' := lc_l ad b (k + 6)) hx hb (show decode code 1397 = .ok (.iinc 3 6, 3) by decide +kernel) hl (k := 0) rfl (nI_add k 6) (by decide) rfl (fun ls' hl' => ?_)
    refine lv_goto (tgt := 18) hx hb (show decode code 1400 = .ok (.goto (-1382), 3) by decide +kernel) (by decide) ?_
    exact ih (k + 6) M2 H1 locs1 ls' (by omega) (by omega) hl' hI2 hP2 hS2
end LCL
