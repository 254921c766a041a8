def xf_I_keep_L36 (N : Nat) : Nat → xS → Int32 → Option (xS)
  | 0, _, _ => none
  | n + 1, S3, v2 => (if (S3.1 28 0) ≤ v2 then some S3 else (if ok v2 6 then (if v2.toNatClampNeg < S3.2.2.1 then (if cpok 0 (v2 * 8) 8 8 48 = true then xf_I_keep_L36 N n (xf (xs S3 30 v2.toNatClampNeg (S3.1 57 v2.toNatClampNeg)) 31 (va_cpy ((xs S3 30 v2.toNatClampNeg (S3.1 57 v2.toNatClampNeg)).1 (80 + 4 * v2.toNatClampNeg)) ((xs S3 30 v2.toNatClampNeg (S3.1 57 v2.toNatClampNeg)).1 31) ((0 : Int32).toNatClampNeg) ((v2 * 8).toNatClampNeg) ((8 : Int32).toNatClampNeg))) (v2 + 1) else none) else none) else none))
set_option maxRecDepth 100000 in
theorem wx_I_keep_L36 {p : Program} {l : Launch} {e : Env} {R : Room} {s : State} {m : MethodId} {args : Array Value} {below : List Frame} {meth : Method} {c : Code} {Q : State → Prop} {g : xG} {A : Nat → Prop} {H0 : Heap} (hc : qC RX2 cX2_keep p s m args c) (hR : qRoom R 3) (hml : c.maxLocals = 4) (N : Nat) : ∀ (n : Nat) (S3 : xS) (v2 : Int32) (X : xS) (H : Heap) (locs : List Loc) (ls : Array Slot), xf_I_keep_L36 N n S3 v2 = some X → xI g A H0 s S3 H locs → lv_has ls 4 [(0, .ref (xr g 2)), (1, .ref (xr g 1)), (3, .int v2)] → (∀ (H : Heap) (locs : List Loc) (ls : Array Slot), xI g A H0 s X H locs → lv_has ls 4 [(0, .ref (xr g 2)), (1, .ref (xr g 1))] → W p l e R s m args below meth c H locs 0 0 Q (F0 m 88 ls [])) → W p l e R s m args below meth c H locs 0 0 Q (F0 m 36 ls []) := by
  have hx := hc.1
  have hb := hc.2.1
  intro n
  induction n with
  | zero => intro _ _ X H locs ls hf; exact nomatch (show none = some X from hf)
  | succ n ih =>
    intro S3 v2 X H locs ls hf hw hl kx
    rw [xf_I_keep_L36] at hf
    refine lv_iload_n hx hb dX2_keep_36 rfl (lv_at hl 2 rfl) ?_
    refine lv_aload_n hx hb dX2_keep_37 rfl (lv_at hl 0 rfl) ?_
    refine x_g_image_rowCount hc hw fl_2_19 dX2_keep_38 ?_
    refine lv_icmp_ge (tgt := 88) hx hb dX2_keep_41 (by decide) (fun cn13 => ?_) (fun cn13 => ?_)
    · have hf := (if_pos cn13).symm.trans hf
      obtain rfl := Option.some.inj hf
      exact kx _ _ _ hw (lv_sub hl [0, 1] rfl)
    · have hf := (if_neg cn13).symm.trans hf
      refine lv_aload_n hx hb dX2_keep_44 rfl (lv_at hl 0 rfl) ?_
      refine x_g_image_rises hc hw fl_2_25 dX2_keep_45 ?_
      refine lv_iload_n hx hb dX2_keep_48 rfl (lv_at hl 2 rfl) ?_
      refine lv_aload_n hx hb dX2_keep_49 rfl (lv_at hl 1 rfl) ?_
      refine x_g_hall_rows hc hw fl_2_58 dX2_keep_50 ?_
      refine lv_iload_n hx hb dX2_keep_53 rfl (lv_at hl 2 rfl) ?_
      obtain ⟨hi4, hf⟩ := gd_some hf
      obtain ⟨hr5, hf⟩ := gd_some hf
      refine x_l_rows hc hw (ok_in hi4) hr5 dX2_keep_54 ?_
      refine x_rg_rise hc hw hr5 fl_2_62 dX2_keep_55 ?_
      refine x_s_image_rises hc hw (ok_in hi4) dX2_keep_58 (fun H locs hw => ?_)
      refine lv_aload_n hx hb dX2_keep_59 rfl (lv_at hl 1 rfl) ?_
      refine x_g_hall_rows hc hw fl_2_58 dX2_keep_60 ?_
      refine lv_iload_n hx hb dX2_keep_63 rfl (lv_at hl 2 rfl) ?_
      refine x_l_rows hc hw (ok_in hi4) hr5 dX2_keep_64 ?_
      refine x_rg_sorts hc hw hr5 fl_2_67 dX2_keep_65 ?_
      refine lv_iconst (v := 0) hx hb dX2_keep_68 (by decide) ?_
      refine lv_aload_n hx hb dX2_keep_69 rfl (lv_at hl 0 rfl) ?_
      refine x_g_image_sorts hc hw fl_2_29 dX2_keep_70 ?_
      refine lv_iload_n hx hb dX2_keep_73 rfl (lv_at hl 2 rfl) ?_
      refine lv_bipush (v := 8) hx hb dX2_keep_74 (by decide) ?_
      refine lv_imul hx hb dX2_keep_76 ?_
      refine lv_bipush (v := 8) hx hb dX2_keep_77 (by decide) ?_
      obtain ⟨hk6, hf⟩ := gd_some hf
      refine x_copy (S1 := xf (xs S3 30 v2.toNatClampNeg (S3.1 57 v2.toNatClampNeg)) 31 (va_cpy ((xs S3 30 v2.toNatClampNeg (S3.1 57 v2.toNatClampNeg)).1 (80 + 4 * v2.toNatClampNeg)) ((xs S3 30 v2.toNatClampNeg (S3.1 57 v2.toNatClampNeg)).1 31) ((0 : Int32).toNatClampNeg) ((v2 * 8).toNatClampNeg) ((8 : Int32).toNatClampNeg))) hc hw hR (by decide) (hml.trans hl.1.symm) (mem_g 1088 (by decide +kernel) rfl) (mem_g 463 (by decide +kernel) rfl) (mem_g 462 (by decide +kernel) rfl) (mem_g 88 (by decide +kernel) rfl) (Nat.le_of_ble_eq_true rfl) (xW_sorts hr5) ((xW_A (k := 26) (by decide)).trans rfl) (xW_setA (k := 26) (by decide) rfl (xf_R (k := 31) (by decide)) (xf_T (k := 31) (by decide))) hk6 dX2_keep_79 (fun H locs hw => ?_)
      refine lv_iinc (lv' := [(3, .int (v2 + 1)), (0, .ref (xr g 2)), (1, .ref (xr g 1))]) hx hb dX2_keep_82 hl (k := 2) rfl rfl (by decide) rfl (fun ls hl => ?_)
      refine lv_goto (tgt := 36) hx hb dX2_keep_85 (by decide) ?_
      exact ih _ _ X _ _ _ hf hw (lv_sub hl [1, 2, 0] rfl) kx
def xf_I_keep (N : Nat) (S : xS) (a2 : Int32) : Option (xS) := (bd1 (xf_H_allShifts N (xs (xs (xs (xs S 26 0 1) 27 0 a2) 28 0 ((xs (xs S 26 0 1) 27 0 a2).1 16 0)) 29 0 ((xs (xs (xs S 26 0 1) 27 0 a2) 28 0 ((xs (xs S 26 0 1) 27 0 a2).1 16 0)).1 18 0))) fun v1 => (bd1 (xf_I_keep_L36 N N (xs (xs (xs (xs (xs S 26 0 1) 27 0 a2) 28 0 ((xs (xs S 26 0 1) 27 0 a2).1 16 0)) 29 0 ((xs (xs (xs S 26 0 1) 27 0 a2) 28 0 ((xs (xs S 26 0 1) 27 0 a2).1 16 0)).1 18 0)) 37 0 v1) 0) fun S7 => (if cpok 0 0 4 4 4 = true then (if cpok 0 0 4 4 4 = true then (if cpok 0 0 4 4 4 = true then (if cpok 0 0 ((xf (xf (xf S7 32 (va_cpy (S7.1 8) (S7.1 32) ((0 : Int32).toNatClampNeg) ((0 : Int32).toNatClampNeg) ((4 : Int32).toNatClampNeg))) 33 (va_cpy ((xf S7 32 (va_cpy (S7.1 8) (S7.1 32) ((0 : Int32).toNatClampNeg) ((0 : Int32).toNatClampNeg) ((4 : Int32).toNatClampNeg))).1 9) ((xf S7 32 (va_cpy (S7.1 8) (S7.1 32) ((0 : Int32).toNatClampNeg) ((0 : Int32).toNatClampNeg) ((4 : Int32).toNatClampNeg))).1 33) ((0 : Int32).toNatClampNeg) ((0 : Int32).toNatClampNeg) ((4 : Int32).toNatClampNeg))) 34 (va_cpy ((xf (xf S7 32 (va_cpy (S7.1 8) (S7.1 32) ((0 : Int32).toNatClampNeg) ((0 : Int32).toNatClampNeg) ((4 : Int32).toNatClampNeg))) 33 (va_cpy ((xf S7 32 (va_cpy (S7.1 8) (S7.1 32) ((0 : Int32).toNatClampNeg) ((0 : Int32).toNatClampNeg) ((4 : Int32).toNatClampNeg))).1 9) ((xf S7 32 (va_cpy (S7.1 8) (S7.1 32) ((0 : Int32).toNatClampNeg) ((0 : Int32).toNatClampNeg) ((4 : Int32).toNatClampNeg))).1 33) ((0 : Int32).toNatClampNeg) ((0 : Int32).toNatClampNeg) ((4 : Int32).toNatClampNeg))).1 10) ((xf (xf S7 32 (va_cpy (S7.1 8) (S7.1 32) ((0 : Int32).toNatClampNeg) ((0 : Int32).toNatClampNeg) ((4 : Int32).toNatClampNeg))) 33 (va_cpy ((xf S7 32 (va_cpy (S7.1 8) (S7.1 32) ((0 : Int32).toNatClampNeg) ((0 : Int32).toNatClampNeg) ((4 : Int32).toNatClampNeg))).1 9) ((xf S7 32 (va_cpy (S7.1 8) (S7.1 32) ((0 : Int32).toNatClampNeg) ((0 : Int32).toNatClampNeg) ((4 : Int32).toNatClampNeg))).1 33) ((0 : Int32).toNatClampNeg) ((0 : Int32).toNatClampNeg) ((4 : Int32).toNatClampNeg))).1 34) ((0 : Int32).toNatClampNeg) ((0 : Int32).toNatClampNeg) ((4 : Int32).toNatClampNeg))).1 29 0) 4 4 = true then (if cpok 0 0 ((xf (xf (xf (xf S7 32 (va_cpy (S7.1 8) (S7.1 32) ((0 : Int32).toNatClampNeg) ((0 : Int32).toNatClampNeg) ((4 : Int32).toNatClampNeg))) 33 (va_cpy ((xf S7 32 (va_cpy (S7.1 8) (S7.1 32) ((0 : Int32).toNatClampNeg) ((0 : Int32).toNatClampNeg) ((4 : Int32).toNatClampNeg))).1 9) ((xf S7 32 (va_cpy (S7.1 8) (S7.1 32) ((0 : Int32).toNatClampNeg) ((0 : Int32).toNatClampNeg) ((4 : Int32).toNatClampNeg))).1 33) ((0 : Int32).toNatClampNeg) ((0 : Int32).toNatClampNeg) ((4 : Int32).toNatClampNeg))) 34 (va_cpy ((xf (xf S7 32 (va_cpy (S7.1 8) (S7.1 32) ((0 : Int32).toNatClampNeg) ((0 : Int32).toNatClampNeg) ((4 : Int32).toNatClampNeg))) 33 (va_cpy ((xf S7 32 (va_cpy (S7.1 8) (S7.1 32) ((0 : Int32).toNatClampNeg) ((0 : Int32).toNatClampNeg) ((4 : Int32).toNatClampNeg))).1 9) ((xf S7 32 (va_cpy (S7.1 8) (S7.1 32) ((0 : Int32).toNatClampNeg) ((0 : Int32).toNatClampNeg) ((4 : Int32).toNatClampNeg))).1 33) ((0 : Int32).toNatClampNeg) ((0 : Int32).toNatClampNeg) ((4 : Int32).toNatClampNeg))).1 10) ((xf (xf S7 32 (va_cpy (S7.1 8) (S7.1 32) ((0 : Int32).toNatClampNeg) ((0 : Int32).toNatClampNeg) ((4 : Int32).toNatClampNeg))) 33 (va_cpy ((xf S7 32 (va_cpy (S7.1 8) (S7.1 32) ((0 : Int32).toNatClampNeg) ((0 : Int32).toNatClampNeg) ((4 : Int32).toNatClampNeg))).1 9) ((xf S7 32 (va_cpy (S7.1 8) (S7.1 32) ((0 : Int32).toNatClampNeg) ((0 : Int32).toNatClampNeg) ((4 : Int32).toNatClampNeg))).1 33) ((0 : Int32).toNatClampNeg) ((0 : Int32).toNatClampNeg) ((4 : Int32).toNatClampNeg))).1 34) ((0 : Int32).toNatClampNeg) ((0 : Int32).toNatClampNeg) ((4 : Int32).toNatClampNeg))) 35 (va_cpy ((xf (xf (xf S7 32 (va_cpy (S7.1 8) (S7.1 32) ((0 : Int32).toNatClampNeg) ((0 : Int32).toNatClampNeg) ((4 : Int32).toNatClampNeg))) 33 (va_cpy ((xf S7 32 (va_cpy (S7.1 8) (S7.1 32) ((0 : Int32).toNatClampNeg) ((0 : Int32).toNatClampNeg) ((4 : Int32).toNatClampNeg))).1 9) ((xf S7 32 (va_cpy (S7.1 8) (S7.1 32) ((0 : Int32).toNatClampNeg) ((0 : Int32).toNatClampNeg) ((4 : Int32).toNatClampNeg))).1 33) ((0 : Int32).toNatClampNeg) ((0 : Int32).toNatClampNeg) ((4 : Int32).toNatClampNeg))) 34 (va_cpy ((xf (xf S7 32 (va_cpy (S7.1 8) (S7.1 32) ((0 : Int32).toNatClampNeg) ((0 : Int32).toNatClampNeg) ((4 : Int32).toNatClampNeg))) 33 (va_cpy ((xf S7 32 (va_cpy (S7.1 8) (S7.1 32) ((0 : Int32).toNatClampNeg) ((0 : Int32).toNatClampNeg) ((4 : Int32).toNatClampNeg))).1 9) ((xf S7 32 (va_cpy (S7.1 8) (S7.1 32) ((0 : Int32).toNatClampNeg) ((0 : Int32).toNatClampNeg) ((4 : Int32).toNatClampNeg))).1 33) ((0 : Int32).toNatClampNeg) ((0 : Int32).toNatClampNeg) ((4 : Int32).toNatClampNeg))).1 10) ((xf (xf S7 32 (va_cpy (S7.1 8) (S7.1 32) ((0 : Int32).toNatClampNeg) ((0 : Int32).toNatClampNeg) ((4 : Int32).toNatClampNeg))) 33 (va_cpy ((xf S7 32 (va_cpy (S7.1 8) (S7.1 32) ((0 : Int32).toNatClampNeg) ((0 : Int32).toNatClampNeg) ((4 : Int32).toNatClampNeg))).1 9) ((xf S7 32 (va_cpy (S7.1 8) (S7.1 32) ((0 : Int32).toNatClampNeg) ((0 : Int32).toNatClampNeg) ((4 : Int32).toNatClampNeg))).1 33) ((0 : Int32).toNatClampNeg) ((0 : Int32).toNatClampNeg) ((4 : Int32).toNatClampNeg))).1 34) ((0 : Int32).toNatClampNeg) ((0 : Int32).toNatClampNeg) ((4 : Int32).toNatClampNeg))).1 14) ((xf (xf (xf S7 32 (va_cpy (S7.1 8) (S7.1 32) ((0 : Int32).toNatClampNeg) ((0 : Int32).toNatClampNeg) ((4 : Int32).toNatClampNeg))) 33 (va_cpy ((xf S7 32 (va_cpy (S7.1 8) (S7.1 32) ((0 : Int32).toNatClampNeg) ((0 : Int32).toNatClampNeg) ((4 : Int32).toNatClampNeg))).1 9) ((xf S7 32 (va_cpy (S7.1 8) (S7.1 32) ((0 : Int32).toNatClampNeg) ((0 : Int32).toNatClampNeg) ((4 : Int32).toNatClampNeg))).1 33) ((0 : Int32).toNatClampNeg) ((0 : Int32).toNatClampNeg) ((4 : Int32).toNatClampNeg))) 34 (va_cpy ((xf (xf S7 32 (va_cpy (S7.1 8) (S7.1 32) ((0 : Int32).toNatClampNeg) ((0 : Int32).toNatClampNeg) ((4 : Int32).toNatClampNeg))) 33 (va_cpy ((xf S7 32 (va_cpy (S7.1 8) (S7.1 32) ((0 : Int32).toNatClampNeg) ((0 : Int32).toNatClampNeg) ((4 : Int32).toNatClampNeg))).1 9) ((xf S7 32 (va_cpy (S7.1 8) (S7.1 32) ((0 : Int32).toNatClampNeg) ((0 : Int32).toNatClampNeg) ((4 : Int32).toNatClampNeg))).1 33) ((0 : Int32).toNatClampNeg) ((0 : Int32).toNatClampNeg) ((4 : Int32).toNatClampNeg))).1 10) ((xf (xf S7 32 (va_cpy (S7.1 8) (S7.1 32) ((0 : Int32).toNatClampNeg) ((0 : Int32).toNatClampNeg) ((4 : Int32).toNatClampNeg))) 33 (va_cpy ((xf S7 32 (va_cpy (S7.1 8) (S7.1 32) ((0 : Int32).toNatClampNeg) ((0 : Int32).toNatClampNeg) ((4 : Int32).toNatClampNeg))).1 9) ((xf S7 32 (va_cpy (S7.1 8) (S7.1 32) ((0 : Int32).toNatClampNeg) ((0 : Int32).toNatClampNeg) ((4 : Int32).toNatClampNeg))).1 33) ((0 : Int32).toNatClampNeg) ((0 : Int32).toNatClampNeg) ((4 : Int32).toNatClampNeg))).1 34) ((0 : Int32).toNatClampNeg) ((0 : Int32).toNatClampNeg) ((4 : Int32).toNatClampNeg))).1 35) ((0 : Int32).toNatClampNeg) ((0 : Int32).toNatClampNeg) (((xf (xf (xf S7 32 (va_cpy (S7.1 8) (S7.1 32) ((0 : Int32).toNatClampNeg) ((0 : Int32).toNatClampNeg) ((4 : Int32).toNatClampNeg))) 33 (va_cpy ((xf S7 32 (va_cpy (S7.1 8) (S7.1 32) ((0 : Int32).toNatClampNeg) ((0 : Int32).toNatClampNeg) ((4 : Int32).toNatClampNeg))).1 9) ((xf S7 32 (va_cpy (S7.1 8) (S7.1 32) ((0 : Int32).toNatClampNeg) ((0 : Int32).toNatClampNeg) ((4 : Int32).toNatClampNeg))).1 33) ((0 : Int32).toNatClampNeg) ((0 : Int32).toNatClampNeg) ((4 : Int32).toNatClampNeg))) 34 (va_cpy ((xf (xf S7 32 (va_cpy (S7.1 8) (S7.1 32) ((0 : Int32).toNatClampNeg) ((0 : Int32).toNatClampNeg) ((4 : Int32).toNatClampNeg))) 33 (va_cpy ((xf S7 32 (va_cpy (S7.1 8) (S7.1 32) ((0 : Int32).toNatClampNeg) ((0 : Int32).toNatClampNeg) ((4 : Int32).toNatClampNeg))).1 9) ((xf S7 32 (va_cpy (S7.1 8) (S7.1 32) ((0 : Int32).toNatClampNeg) ((0 : Int32).toNatClampNeg) ((4 : Int32).toNatClampNeg))).1 33) ((0 : Int32).toNatClampNeg) ((0 : Int32).toNatClampNeg) ((4 : Int32).toNatClampNeg))).1 10) ((xf (xf S7 32 (va_cpy (S7.1 8) (S7.1 32) ((0 : Int32).toNatClampNeg) ((0 : Int32).toNatClampNeg) ((4 : Int32).toNatClampNeg))) 33 (va_cpy ((xf S7 32 (va_cpy (S7.1 8) (S7.1 32) ((0 : Int32).toNatClampNeg) ((0 : Int32).toNatClampNeg) ((4 : Int32).toNatClampNeg))).1 9) ((xf S7 32 (va_cpy (S7.1 8) (S7.1 32) ((0 : Int32).toNatClampNeg) ((0 : Int32).toNatClampNeg) ((4 : Int32).toNatClampNeg))).1 33) ((0 : Int32).toNatClampNeg) ((0 : Int32).toNatClampNeg) ((4 : Int32).toNatClampNeg))).1 34) ((0 : Int32).toNatClampNeg) ((0 : Int32).toNatClampNeg) ((4 : Int32).toNatClampNeg))).1 29 0).toNatClampNeg))).1 29 0) 4 4 = true then some (xf (xf (xf (xf (xf S7 32 (va_cpy (S7.1 8) (S7.1 32) ((0 : Int32).toNatClampNeg) ((0 : Int32).toNatClampNeg) ((4 : Int32).toNatClampNeg))) 33 (va_cpy ((xf S7 32 (va_cpy (S7.1 8) (S7.1 32) ((0 : Int32).toNatClampNeg) ((0 : Int32).toNatClampNeg) ((4 : Int32).toNatClampNeg))).1 9) ((xf S7 32 (va_cpy (S7.1 8) (S7.1 32) ((0 : Int32).toNatClampNeg) ((0 : Int32).toNatClampNeg) ((4 : Int32).toNatClampNeg))).1 33) ((0 : Int32).toNatClampNeg) ((0 : Int32).toNatClampNeg) ((4 : Int32).toNatClampNeg))) 34 (va_cpy ((xf (xf S7 32 (va_cpy (S7.1 8) (S7.1 32) ((0 : Int32).toNatClampNeg) ((0 : Int32).toNatClampNeg) ((4 : Int32).toNatClampNeg))) 33 (va_cpy ((xf S7 32 (va_cpy (S7.1 8) (S7.1 32) ((0 : Int32).toNatClampNeg) ((0 : Int32).toNatClampNeg) ((4 : Int32).toNatClampNeg))).1 9) ((xf S7 32 (va_cpy (S7.1 8) (S7.1 32) ((0 : Int32).toNatClampNeg) ((0 : Int32).toNatClampNeg) ((4 : Int32).toNatClampNeg))).1 33) ((0 : Int32).toNatClampNeg) ((0 : Int32).toNatClampNeg) ((4 : Int32).toNatClampNeg))).1 10) ((xf (xf S7 32 (va_cpy (S7.1 8) (S7.1 32) ((0 : Int32).toNatClampNeg) ((0 : Int32).toNatClampNeg) ((4 : Int32).toNatClampNeg))) 33 (va_cpy ((xf S7 32 (va_cpy (S7.1 8) (S7.1 32) ((0 : Int32).toNatClampNeg) ((0 : Int32).toNatClampNeg) ((4 : Int32).toNatClampNeg))).1 9) ((xf S7 32 (va_cpy (S7.1 8) (S7.1 32) ((0 : Int32).toNatClampNeg) ((0 : Int32).toNatClampNeg) ((4 : Int32).toNatClampNeg))).1 33) ((0 : Int32).toNatClampNeg) ((0 : Int32).toNatClampNeg) ((4 : Int32).toNatClampNeg))).1 34) ((0 : Int32).toNatClampNeg) ((0 : Int32).toNatClampNeg) ((4 : Int32).toNatClampNeg))) 35 (va_cpy ((xf (xf (xf S7 32 (va_cpy (S7.1 8) (S7.1 32) ((0 : Int32).toNatClampNeg) ((0 : Int32).toNatClampNeg) ((4 : Int32).toNatClampNeg))) 33 (va_cpy ((xf S7 32 (va_cpy (S7.1 8) (S7.1 32) ((0 : Int32).toNatClampNeg) ((0 : Int32).toNatClampNeg) ((4 : Int32).toNatClampNeg))).1 9) ((xf S7 32 (va_cpy (S7.1 8) (S7.1 32) ((0 : Int32).toNatClampNeg) ((0 : Int32).toNatClampNeg) ((4 : Int32).toNatClampNeg))).1 33) ((0 : Int32).toNatClampNeg) ((0 : Int32).toNatClampNeg) ((4 : Int32).toNatClampNeg))) 34 (va_cpy ((xf (xf S7 32 (va_cpy (S7.1 8) (S7.1 32) ((0 : Int32).toNatClampNeg) ((0 : Int32).toNatClampNeg) ((4 : Int32).toNatClampNeg))) 33 (va_cpy ((xf S7 32 (va_cpy (S7.1 8) (S7.1 32) ((0 : Int32).toNatClampNeg) ((0 : Int32).toNatClampNeg) ((4 : Int32).toNatClampNeg))).1 9) ((xf S7 32 (va_cpy (S7.1 8) (S7.1 32) ((0 : Int32).toNatClampNeg) ((0 : Int32).toNatClampNeg) ((4 : Int32).toNatClampNeg))).1 33) ((0 : Int32).toNatClampNeg) ((0 : Int32).toNatClampNeg) ((4 : Int32).toNatClampNeg))).1 10) ((xf (xf S7 32 (va_cpy (S7.1 8) (S7.1 32) ((0 : Int32).toNatClampNeg) ((0 : Int32).toNatClampNeg) ((4 : Int32).toNatClampNeg))) 33 (va_cpy ((xf S7 32 (va_cpy (S7.1 8) (S7.1 32) ((0 : Int32).toNatClampNeg) ((0 : Int32).toNatClampNeg) ((4 : Int32).toNatClampNeg))).1 9) ((xf S7 32 (va_cpy (S7.1 8) (S7.1 32) ((0 : Int32).toNatClampNeg) ((0 : Int32).toNatClampNeg) ((4 : Int32).toNatClampNeg))).1 33) ((0 : Int32).toNatClampNeg) ((0 : Int32).toNatClampNeg) ((4 : Int32).toNatClampNeg))).1 34) ((0 : Int32).toNatClampNeg) ((0 : Int32).toNatClampNeg) ((4 : Int32).toNatClampNeg))).1 14) ((xf (xf (xf S7 32 (va_cpy (S7.1 8) (S7.1 32) ((0 : Int32).toNatClampNeg) ((0 : Int32).toNatClampNeg) ((4 : Int32).toNatClampNeg))) 33 (va_cpy ((xf S7 32 (va_cpy (S7.1 8) (S7.1 32) ((0 : Int32).toNatClampNeg) ((0 : Int32).toNatClampNeg) ((4 : Int32).toNatClampNeg))).1 9) ((xf S7 32 (va_cpy (S7.1 8) (S7.1 32) ((0 : Int32).toNatClampNeg) ((0 : Int32).toNatClampNeg) ((4 : Int32).toNatClampNeg))).1 33) ((0 : Int32).toNatClampNeg) ((0 : Int32).toNatClampNeg) ((4 : Int32).toNatClampNeg))) 34 (va_cpy ((xf (xf S7 32 (va_cpy (S7.1 8) (S7.1 32) ((0 : Int32).toNatClampNeg) ((0 : Int32).toNatClampNeg) ((4 : Int32).toNatClampNeg))) 33 (va_cpy ((xf S7 32 (va_cpy (S7.1 8) (S7.1 32) ((0 : Int32).toNatClampNeg) ((0 : Int32).toNatClampNeg) ((4 : Int32).toNatClampNeg))).1 9) ((xf S7 32 (va_cpy (S7.1 8) (S7.1 32) ((0 : Int32).toNatClampNeg) ((0 : Int32).toNatClampNeg) ((4 : Int32).toNatClampNeg))).1 33) ((0 : Int32).toNatClampNeg) ((0 : Int32).toNatClampNeg) ((4 : Int32).toNatClampNeg))).1 10) ((xf (xf S7 32 (va_cpy (S7.1 8) (S7.1 32) ((0 : Int32).toNatClampNeg) ((0 : Int32).toNatClampNeg) ((4 : Int32).toNatClampNeg))) 33 (va_cpy ((xf S7 32 (va_cpy (S7.1 8) (S7.1 32) ((0 : Int32).toNatClampNeg) ((0 : Int32).toNatClampNeg) ((4 : Int32).toNatClampNeg))).1 9) ((xf S7 32 (va_cpy (S7.1 8) (S7.1 32) ((0 : Int32).toNatClampNeg) ((0 : Int32).toNatClampNeg) ((4 : Int32).toNatClampNeg))).1 33) ((0 : Int32).toNatClampNeg) ((0 : Int32).toNatClampNeg) ((4 : Int32).toNatClampNeg))).1 34) ((0 : Int32).toNatClampNeg) ((0 : Int32).toNatClampNeg) ((4 : Int32).toNatClampNeg))).1 35) ((0 : Int32).toNatClampNeg) ((0 : Int32).toNatClampNeg) (((xf (xf (xf S7 32 (va_cpy (S7.1 8) (S7.1 32) ((0 : Int32).toNatClampNeg) ((0 : Int32).toNatClampNeg) ((4 : Int32).toNatClampNeg))) 33 (va_cpy ((xf S7 32 (va_cpy (S7.1 8) (S7.1 32) ((0 : Int32).toNatClampNeg) ((0 : Int32).toNatClampNeg) ((4 : Int32).toNatClampNeg))).1 9) ((xf S7 32 (va_cpy (S7.1 8) (S7.1 32) ((0 : Int32).toNatClampNeg) ((0 : Int32).toNatClampNeg) ((4 : Int32).toNatClampNeg))).1 33) ((0 : Int32).toNatClampNeg) ((0 : Int32).toNatClampNeg) ((4 : Int32).toNatClampNeg))) 34 (va_cpy ((xf (xf S7 32 (va_cpy (S7.1 8) (S7.1 32) ((0 : Int32).toNatClampNeg) ((0 : Int32).toNatClampNeg) ((4 : Int32).toNatClampNeg))) 33 (va_cpy ((xf S7 32 (va_cpy (S7.1 8) (S7.1 32) ((0 : Int32).toNatClampNeg) ((0 : Int32).toNatClampNeg) ((4 : Int32).toNatClampNeg))).1 9) ((xf S7 32 (va_cpy (S7.1 8) (S7.1 32) ((0 : Int32).toNatClampNeg) ((0 : Int32).toNatClampNeg) ((4 : Int32).toNatClampNeg))).1 33) ((0 : Int32).toNatClampNeg) ((0 : Int32).toNatClampNeg) ((4 : Int32).toNatClampNeg))).1 10) ((xf (xf S7 32 (va_cpy (S7.1 8) (S7.1 32) ((0 : Int32).toNatClampNeg) ((0 : Int32).toNatClampNeg) ((4 : Int32).toNatClampNeg))) 33 (va_cpy ((xf S7 32 (va_cpy (S7.1 8) (S7.1 32) ((0 : Int32).toNatClampNeg) ((0 : Int32).toNatClampNeg) ((4 : Int32).toNatClampNeg))).1 9) ((xf S7 32 (va_cpy (S7.1 8) (S7.1 32) ((0 : Int32).toNatClampNeg) ((0 : Int32).toNatClampNeg) ((4 : Int32).toNatClampNeg))).1 33) ((0 : Int32).toNatClampNeg) ((0 : Int32).toNatClampNeg) ((4 : Int32).toNatClampNeg))).1 34) ((0 : Int32).toNatClampNeg) ((0 : Int32).toNatClampNeg) ((4 : Int32).toNatClampNeg))).1 29 0).toNatClampNeg))) 36 (va_cpy ((xf (xf (xf (xf S7 32 (va_cpy (S7.1 8) (S7.1 32) ((0 : Int32).toNatClampNeg) ((0 : Int32).toNatClampNeg) ((4 : Int32).toNatClampNeg))) 33 (va_cpy ((xf S7 32 (va_cpy (S7.1 8) (S7.1 32) ((0 : Int32).toNatClampNeg) ((0 : Int32).toNatClampNeg) ((4 : Int32).toNatClampNeg))).1 9) ((xf S7 32 (va_cpy (S7.1 8) (S7.1 32) ((0 : Int32).toNatClampNeg) ((0 : Int32).toNatClampNeg) ((4 : Int32).toNatClampNeg))).1 33) ((0 : Int32).toNatClampNeg) ((0 : Int32).toNatClampNeg) ((4 : Int32).toNatClampNeg))) 34 (va_cpy ((xf (xf S7 32 (va_cpy (S7.1 8) (S7.1 32) ((0 : Int32).toNatClampNeg) ((0 : Int32).toNatClampNeg) ((4 : Int32).toNatClampNeg))) 33 (va_cpy ((xf S7 32 (va_cpy (S7.1 8) (S7.1 32) ((0 : Int32).toNatClampNeg) ((0 : Int32).toNatClampNeg) ((4 : Int32).toNatClampNeg))).1 9) ((xf S7 32 (va_cpy (S7.1 8) (S7.1 32) ((0 : Int32).toNatClampNeg) ((0 : Int32).toNatClampNeg) ((4 : Int32).toNatClampNeg))).1 33) ((0 : Int32).toNatClampNeg) ((0 : Int32).toNatClampNeg) ((4 : Int32).toNatClampNeg))).1 10) ((xf (xf S7 32 (va_cpy (S7.1 8) (S7.1 32) ((0 : Int32).toNatClampNeg) ((0 : Int32).toNatClampNeg) ((4 : Int32).toNatClampNeg))) 33 (va_cpy ((xf S7 32 (va_cpy (S7.1 8) (S7.1 32) ((0 : Int32).toNatClampNeg) ((0 : Int32).toNatClampNeg) ((4 : Int32).toNatClampNeg))).1 9) ((xf S7 32 (va_cpy (S7.1 8) (S7.1 32) ((0 : Int32).toNatClampNeg) ((0 : Int32).toNatClampNeg) ((4 : Int32).toNatClampNeg))).1 33) ((0 : Int32).toNatClampNeg) ((0 : Int32).toNatClampNeg) ((4 : Int32).toNatClampNeg))).1 34) ((0 : Int32).toNatClampNeg) ((0 : Int32).toNatClampNeg) ((4 : Int32).toNatClampNeg))) 35 (va_cpy ((xf (xf (xf S7 32 (va_cpy (S7.1 8) (S7.1 32) ((0 : Int32).toNatClampNeg) ((0 : Int32).toNatClampNeg) ((4 : Int32).toNatClampNeg))) 33 (va_cpy ((xf S7 32 (va_cpy (S7.1 8) (S7.1 32) ((0 : Int32).toNatClampNeg) ((0 : Int32).toNatClampNeg) ((4 : Int32).toNatClampNeg))).1 9) ((xf S7 32 (va_cpy (S7.1 8) (S7.1 32) ((0 : Int32).toNatClampNeg) ((0 : Int32).toNatClampNeg) ((4 : Int32).toNatClampNeg))).1 33) ((0 : Int32).toNatClampNeg) ((0 : Int32).toNatClampNeg) ((4 : Int32).toNatClampNeg))) 34 (va_cpy ((xf (xf S7 32 (va_cpy (S7.1 8) (S7.1 32) ((0 : Int32).toNatClampNeg) ((0 : Int32).toNatClampNeg) ((4 : Int32).toNatClampNeg))) 33 (va_cpy ((xf S7 32 (va_cpy (S7.1 8) (S7.1 32) ((0 : Int32).toNatClampNeg) ((0 : Int32).toNatClampNeg) ((4 : Int32).toNatClampNeg))).1 9) ((xf S7 32 (va_cpy (S7.1 8) (S7.1 32) ((0 : Int32).toNatClampNeg) ((0 : Int32).toNatClampNeg) ((4 : Int32).toNatClampNeg))).1 33) ((0 : Int32).toNatClampNeg) ((0 : Int32).toNatClampNeg) ((4 : Int32).toNatClampNeg))).1 10) ((xf (xf S7 32 (va_cpy (S7.1 8) (S7.1 32) ((0 : Int32).toNatClampNeg) ((0 : Int32).toNatClampNeg) ((4 : Int32).toNatClampNeg))) 33 (va_cpy ((xf S7 32 (va_cpy (S7.1 8) (S7.1 32) ((0 : Int32).toNatClampNeg) ((0 : Int32).toNatClampNeg) ((4 : Int32).toNatClampNeg))).1 9) ((xf S7 32 (va_cpy (S7.1 8) (S7.1 32) ((0 : Int32).toNatClampNeg) ((0 : Int32).toNatClampNeg) ((4 : Int32).toNatClampNeg))).1 33) ((0 : Int32).toNatClampNeg) ((0 : Int32).toNatClampNeg) ((4 : Int32).toNatClampNeg))).1 34) ((0 : Int32).toNatClampNeg) ((0 : Int32).toNatClampNeg) ((4 : Int32).toNatClampNeg))).1 14) ((xf (xf (xf S7 32 (va_cpy (S7.1 8) (S7.1 32) ((0 : Int32).toNatClampNeg) ((0 : Int32).toNatClampNeg) ((4 : Int32).toNatClampNeg))) 33 (va_cpy ((xf S7 32 (va_cpy (S7.1 8) (S7.1 32) ((0 : Int32).toNatClampNeg) ((0 : Int32).toNatClampNeg) ((4 : Int32).toNatClampNeg))).1 9) ((xf S7 32 (va_cpy (S7.1 8) (S7.1 32) ((0 : Int32).toNatClampNeg) ((0 : Int32).toNatClampNeg) ((4 : Int32).toNatClampNeg))).1 33) ((0 : Int32).toNatClampNeg) ((0 : Int32).toNatClampNeg) ((4 : Int32).toNatClampNeg))) 34 (va_cpy ((xf (xf S7 32 (va_cpy (S7.1 8) (S7.1 32) ((0 : Int32).toNatClampNeg) ((0 : Int32).toNatClampNeg) ((4 : Int32).toNatClampNeg))) 33 (va_cpy ((xf S7 32 (va_cpy (S7.1 8) (S7.1 32) ((0 : Int32).toNatClampNeg) ((0 : Int32).toNatClampNeg) ((4 : Int32).toNatClampNeg))).1 9) ((xf S7 32 (va_cpy (S7.1 8) (S7.1 32) ((0 : Int32).toNatClampNeg) ((0 : Int32).toNatClampNeg) ((4 : Int32).toNatClampNeg))).1 33) ((0 : Int32).toNatClampNeg) ((0 : Int32).toNatClampNeg) ((4 : Int32).toNatClampNeg))).1 10) ((xf (xf S7 32 (va_cpy (S7.1 8) (S7.1 32) ((0 : Int32).toNatClampNeg) ((0 : Int32).toNatClampNeg) ((4 : Int32).toNatClampNeg))) 33 (va_cpy ((xf S7 32 (va_cpy (S7.1 8) (S7.1 32) ((0 : Int32).toNatClampNeg) ((0 : Int32).toNatClampNeg) ((4 : Int32).toNatClampNeg))).1 9) ((xf S7 32 (va_cpy (S7.1 8) (S7.1 32) ((0 : Int32).toNatClampNeg) ((0 : Int32).toNatClampNeg) ((4 : Int32).toNatClampNeg))).1 33) ((0 : Int32).toNatClampNeg) ((0 : Int32).toNatClampNeg) ((4 : Int32).toNatClampNeg))).1 34) ((0 : Int32).toNatClampNeg) ((0 : Int32).toNatClampNeg) ((4 : Int32).toNatClampNeg))).1 35) ((0 : Int32).toNatClampNeg) ((0 : Int32).toNatClampNeg) (((xf (xf (xf S7 32 (va_cpy (S7.1 8) (S7.1 32) ((0 : Int32).toNatClampNeg) ((0 : Int32).toNatClampNeg) ((4 : Int32).toNatClampNeg))) 33 (va_cpy ((xf S7 32 (va_cpy (S7.1 8) (S7.1 32) ((0 : Int32).toNatClampNeg) ((0 : Int32).toNatClampNeg) ((4 : Int32).toNatClampNeg))).1 9) ((xf S7 32 (va_cpy (S7.1 8) (S7.1 32) ((0 : Int32).toNatClampNeg) ((0 : Int32).toNatClampNeg) ((4 : Int32).toNatClampNeg))).1 33) ((0 : Int32).toNatClampNeg) ((0 : Int32).toNatClampNeg) ((4 : Int32).toNatClampNeg))) 34 (va_cpy ((xf (xf S7 32 (va_cpy (S7.1 8) (S7.1 32) ((0 : Int32).toNatClampNeg) ((0 : Int32).toNatClampNeg) ((4 : Int32).toNatClampNeg))) 33 (va_cpy ((xf S7 32 (va_cpy (S7.1 8) (S7.1 32) ((0 : Int32).toNatClampNeg) ((0 : Int32).toNatClampNeg) ((4 : Int32).toNatClampNeg))).1 9) ((xf S7 32 (va_cpy (S7.1 8) (S7.1 32) ((0 : Int32).toNatClampNeg) ((0 : Int32).toNatClampNeg) ((4 : Int32).toNatClampNeg))).1 33) ((0 : Int32).toNatClampNeg) ((0 : Int32).toNatClampNeg) ((4 : Int32).toNatClampNeg))).1 10) ((xf (xf S7 32 (va_cpy (S7.1 8) (S7.1 32) ((0 : Int32).toNatClampNeg) ((0 : Int32).toNatClampNeg) ((4 : Int32).toNatClampNeg))) 33 (va_cpy ((xf S7 32 (va_cpy (S7.1 8) (S7.1 32) ((0 : Int32).toNatClampNeg) ((0 : Int32).toNatClampNeg) ((4 : Int32).toNatClampNeg))).1 9) ((xf S7 32 (va_cpy (S7.1 8) (S7.1 32) ((0 : Int32).toNatClampNeg) ((0 : Int32).toNatClampNeg) ((4 : Int32).toNatClampNeg))).1 33) ((0 : Int32).toNatClampNeg) ((0 : Int32).toNatClampNeg) ((4 : Int32).toNatClampNeg))).1 34) ((0 : Int32).toNatClampNeg) ((0 : Int32).toNatClampNeg) ((4 : Int32).toNatClampNeg))).1 29 0).toNatClampNeg))).1 15) ((xf (xf (xf (xf S7 32 (va_cpy (S7.1 8) (S7.1 32) ((0 : Int32).toNatClampNeg) ((0 : Int32).toNatClampNeg) ((4 : Int32).toNatClampNeg))) 33 (va_cpy ((xf S7 32 (va_cpy (S7.1 8) (S7.1 32) ((0 : Int32).toNatClampNeg) ((0 : Int32).toNatClampNeg) ((4 : Int32).toNatClampNeg))).1 9) ((xf S7 32 (va_cpy (S7.1 8) (S7.1 32) ((0 : Int32).toNatClampNeg) ((0 : Int32).toNatClampNeg) ((4 : Int32).toNatClampNeg))).1 33) ((0 : Int32).toNatClampNeg) ((0 : Int32).toNatClampNeg) ((4 : Int32).toNatClampNeg))) 34 (va_cpy ((xf (xf S7 32 (va_cpy (S7.1 8) (S7.1 32) ((0 : Int32).toNatClampNeg) ((0 : Int32).toNatClampNeg) ((4 : Int32).toNatClampNeg))) 33 (va_cpy ((xf S7 32 (va_cpy (S7.1 8) (S7.1 32) ((0 : Int32).toNatClampNeg) ((0 : Int32).toNatClampNeg) ((4 : Int32).toNatClampNeg))).1 9) ((xf S7 32 (va_cpy (S7.1 8) (S7.1 32) ((0 : Int32).toNatClampNeg) ((0 : Int32).toNatClampNeg) ((4 : Int32).toNatClampNeg))).1 33) ((0 : Int32).toNatClampNeg) ((0 : Int32).toNatClampNeg) ((4 : Int32).toNatClampNeg))).1 10) ((xf (xf S7 32 (va_cpy (S7.1 8) (S7.1 32) ((0 : Int32).toNatClampNeg) ((0 : Int32).toNatClampNeg) ((4 : Int32).toNatClampNeg))) 33 (va_cpy ((xf S7 32 (va_cpy (S7.1 8) (S7.1 32) ((0 : Int32).toNatClampNeg) ((0 : Int32).toNatClampNeg) ((4 : Int32).toNatClampNeg))).1 9) ((xf S7 32 (va_cpy (S7.1 8) (S7.1 32) ((0 : Int32).toNatClampNeg) ((0 : Int32).toNatClampNeg) ((4 : Int32).toNatClampNeg))).1 33) ((0 : Int32).toNatClampNeg) ((0 : Int32).toNatClampNeg) ((4 : Int32).toNatClampNeg))).1 34) ((0 : Int32).toNatClampNeg) ((0 : Int32).toNatClampNeg) ((4 : Int32).toNatClampNeg))) 35 (va_cpy ((xf (xf (xf S7 32 (va_cpy (S7.1 8) (S7.1 32) ((0 : Int32).toNatClampNeg) ((0 : Int32).toNatClampNeg) ((4 : Int32).toNatClampNeg))) 33 (va_cpy ((xf S7 32 (va_cpy (S7.1 8) (S7.1 32) ((0 : Int32).toNatClampNeg) ((0 : Int32).toNatClampNeg) ((4 : Int32).toNatClampNeg))).1 9) ((xf S7 32 (va_cpy (S7.1 8) (S7.1 32) ((0 : Int32).toNatClampNeg) ((0 : Int32).toNatClampNeg) ((4 : Int32).toNatClampNeg))).1 33) ((0 : Int32).toNatClampNeg) ((0 : Int32).toNatClampNeg) ((4 : Int32).toNatClampNeg))) 34 (va_cpy ((xf (xf S7 32 (va_cpy (S7.1 8) (S7.1 32) ((0 : Int32).toNatClampNeg) ((0 : Int32).toNatClampNeg) ((4 : Int32).toNatClampNeg))) 33 (va_cpy ((xf S7 32 (va_cpy (S7.1 8) (S7.1 32) ((0 : Int32).toNatClampNeg) ((0 : Int32).toNatClampNeg) ((4 : Int32).toNatClampNeg))).1 9) ((xf S7 32 (va_cpy (S7.1 8) (S7.1 32) ((0 : Int32).toNatClampNeg) ((0 : Int32).toNatClampNeg) ((4 : Int32).toNatClampNeg))).1 33) ((0 : Int32).toNatClampNeg) ((0 : Int32).toNatClampNeg) ((4 : Int32).toNatClampNeg))).1 10) ((xf (xf S7 32 (va_cpy (S7.1 8) (S7.1 32) ((0 : Int32).toNatClampNeg) ((0 : Int32).toNatClampNeg) ((4 : Int32).toNatClampNeg))) 33 (va_cpy ((xf S7 32 (va_cpy (S7.1 8) (S7.1 32) ((0 : Int32).toNatClampNeg) ((0 : Int32).toNatClampNeg) ((4 : Int32).toNatClampNeg))).1 9) ((xf S7 32 (va_cpy (S7.1 8) (S7.1 32) ((0 : Int32).toNatClampNeg) ((0 : Int32).toNatClampNeg) ((4 : Int32).toNatClampNeg))).1 33) ((0 : Int32).toNatClampNeg) ((0 : Int32).toNatClampNeg) ((4 : Int32).toNatClampNeg))).1 34) ((0 : Int32).toNatClampNeg) ((0 : Int32).toNatClampNeg) ((4 : Int32).toNatClampNeg))).1 14) ((xf (xf (xf S7 32 (va_cpy (S7.1 8) (S7.1 32) ((0 : Int32).toNatClampNeg) ((0 : Int32).toNatClampNeg) ((4 : Int32).toNatClampNeg))) 33 (va_cpy ((xf S7 32 (va_cpy (S7.1 8) (S7.1 32) ((0 : Int32).toNatClampNeg) ((0 : Int32).toNatClampNeg) ((4 : Int32).toNatClampNeg))).1 9) ((xf S7 32 (va_cpy (S7.1 8) (S7.1 32) ((0 : Int32).toNatClampNeg) ((0 : Int32).toNatClampNeg) ((4 : Int32).toNatClampNeg))).1 33) ((0 : Int32).toNatClampNeg) ((0 : Int32).toNatClampNeg) ((4 : Int32).toNatClampNeg))) 34 (va_cpy ((xf (xf S7 32 (va_cpy (S7.1 8) (S7.1 32) ((0 : Int32).toNatClampNeg) ((0 : Int32).toNatClampNeg) ((4 : Int32).toNatClampNeg))) 33 (va_cpy ((xf S7 32 (va_cpy (S7.1 8) (S7.1 32) ((0 : Int32).toNatClampNeg) ((0 : Int32).toNatClampNeg) ((4 : Int32).toNatClampNeg))).1 9) ((xf S7 32 (va_cpy (S7.1 8) (S7.1 32) ((0 : Int32).toNatClampNeg) ((0 : Int32).toNatClampNeg) ((4 : Int32).toNatClampNeg))).1 33) ((0 : Int32).toNatClampNeg) ((0 : Int32).toNatClampNeg) ((4 : Int32).toNatClampNeg))).1 10) ((xf (xf S7 32 (va_cpy (S7.1 8) (S7.1 32) ((0 : Int32).toNatClampNeg) ((0 : Int32).toNatClampNeg) ((4 : Int32).toNatClampNeg))) 33 (va_cpy ((xf S7 32 (va_cpy (S7.1 8) (S7.1 32) ((0 : Int32).toNatClampNeg) ((0 : Int32).toNatClampNeg) ((4 : Int32).toNatClampNeg))).1 9) ((xf S7 32 (va_cpy (S7.1 8) (S7.1 32) ((0 : Int32).toNatClampNeg) ((0 : Int32).toNatClampNeg) ((4 : Int32).toNatClampNeg))).1 33) ((0 : Int32).toNatClampNeg) ((0 : Int32).toNatClampNeg) ((4 : Int32).toNatClampNeg))).1 34) ((0 : Int32).toNatClampNeg) ((0 : Int32).toNatClampNeg) ((4 : Int32).toNatClampNeg))).1 35) ((0 : Int32).toNatClampNeg) ((0 : Int32).toNatClampNeg) (((xf (xf (xf S7 32 (va_cpy (S7.1 8) (S7.1 32) ((0 : Int32).toNatClampNeg) ((0 : Int32).toNatClampNeg) ((4 : Int32).toNatClampNeg))) 33 (va_cpy ((xf S7 32 (va_cpy (S7.1 8) (S7.1 32) ((0 : Int32).toNatClampNeg) ((0 : Int32).toNatClampNeg) ((4 : Int32).toNatClampNeg))).1 9) ((xf S7 32 (va_cpy (S7.1 8) (S7.1 32) ((0 : Int32).toNatClampNeg) ((0 : Int32).toNatClampNeg) ((4 : Int32).toNatClampNeg))).1 33) ((0 : Int32).toNatClampNeg) ((0 : Int32).toNatClampNeg) ((4 : Int32).toNatClampNeg))) 34 (va_cpy ((xf (xf S7 32 (va_cpy (S7.1 8) (S7.1 32) ((0 : Int32).toNatClampNeg) ((0 : Int32).toNatClampNeg) ((4 : Int32).toNatClampNeg))) 33 (va_cpy ((xf S7 32 (va_cpy (S7.1 8) (S7.1 32) ((0 : Int32).toNatClampNeg) ((0 : Int32).toNatClampNeg) ((4 : Int32).toNatClampNeg))).1 9) ((xf S7 32 (va_cpy (S7.1 8) (S7.1 32) ((0 : Int32).toNatClampNeg) ((0 : Int32).toNatClampNeg) ((4 : Int32).toNatClampNeg))).1 33) ((0 : Int32).toNatClampNeg) ((0 : Int32).toNatClampNeg) ((4 : Int32).toNatClampNeg))).1 10) ((xf (xf S7 32 (va_cpy (S7.1 8) (S7.1 32) ((0 : Int32).toNatClampNeg) ((0 : Int32).toNatClampNeg) ((4 : Int32).toNatClampNeg))) 33 (va_cpy ((xf S7 32 (va_cpy (S7.1 8) (S7.1 32) ((0 : Int32).toNatClampNeg) ((0 : Int32).toNatClampNeg) ((4 : Int32).toNatClampNeg))).1 9) ((xf S7 32 (va_cpy (S7.1 8) (S7.1 32) ((0 : Int32).toNatClampNeg) ((0 : Int32).toNatClampNeg) ((4 : Int32).toNatClampNeg))).1 33) ((0 : Int32).toNatClampNeg) ((0 : Int32).toNatClampNeg) ((4 : Int32).toNatClampNeg))).1 34) ((0 : Int32).toNatClampNeg) ((0 : Int32).toNatClampNeg) ((4 : Int32).toNatClampNeg))).1 29 0).toNatClampNeg))).1 36) ((0 : Int32).toNatClampNeg) ((0 : Int32).toNatClampNeg) (((xf (xf (xf (xf S7 32 (va_cpy (S7.1 8) (S7.1 32) ((0 : Int32).toNatClampNeg) ((0 : Int32).toNatClampNeg) ((4 : Int32).toNatClampNeg))) 33 (va_cpy ((xf S7 32 (va_cpy (S7.1 8) (S7.1 32) ((0 : Int32).toNatClampNeg) ((0 : Int32).toNatClampNeg) ((4 : Int32).toNatClampNeg))).1 9) ((xf S7 32 (va_cpy (S7.1 8) (S7.1 32) ((0 : Int32).toNatClampNeg) ((0 : Int32).toNatClampNeg) ((4 : Int32).toNatClampNeg))).1 33) ((0 : Int32).toNatClampNeg) ((0 : Int32).toNatClampNeg) ((4 : Int32).toNatClampNeg))) 34 (va_cpy ((xf (xf S7 32 (va_cpy (S7.1 8) (S7.1 32) ((0 : Int32).toNatClampNeg) ((0 : Int32).toNatClampNeg) ((4 : Int32).toNatClampNeg))) 33 (va_cpy ((xf S7 32 (va_cpy (S7.1 8) (S7.1 32) ((0 : Int32).toNatClampNeg) ((0 : Int32).toNatClampNeg) ((4 : Int32).toNatClampNeg))).1 9) ((xf S7 32 (va_cpy (S7.1 8) (S7.1 32) ((0 : Int32).toNatClampNeg) ((0 : Int32).toNatClampNeg) ((4 : Int32).toNatClampNeg))).1 33) ((0 : Int32).toNatClampNeg) ((0 : Int32).toNatClampNeg) ((4 : Int32).toNatClampNeg))).1 10) ((xf (xf S7 32 (va_cpy (S7.1 8) (S7.1 32) ((0 : Int32).toNatClampNeg) ((0 : Int32).toNatClampNeg) ((4 : Int32).toNatClampNeg))) 33 (va_cpy ((xf S7 32 (va_cpy (S7.1 8) (S7.1 32) ((0 : Int32).toNatClampNeg) ((0 : Int32).toNatClampNeg) ((4 : Int32).toNatClampNeg))).1 9) ((xf S7 32 (va_cpy (S7.1 8) (S7.1 32) ((0 : Int32).toNatClampNeg) ((0 : Int32).toNatClampNeg) ((4 : Int32).toNatClampNeg))).1 33) ((0 : Int32).toNatClampNeg) ((0 : Int32).toNatClampNeg) ((4 : Int32).toNatClampNeg))).1 34) ((0 : Int32).toNatClampNeg) ((0 : Int32).toNatClampNeg) ((4 : Int32).toNatClampNeg))) 35 (va_cpy ((xf (xf (xf S7 32 (va_cpy (S7.1 8) (S7.1 32) ((0 : Int32).toNatClampNeg) ((0 : Int32).toNatClampNeg) ((4 : Int32).toNatClampNeg))) 33 (va_cpy ((xf S7 32 (va_cpy (S7.1 8) (S7.1 32) ((0 : Int32).toNatClampNeg) ((0 : Int32).toNatClampNeg) ((4 : Int32).toNatClampNeg))).1 9) ((xf S7 32 (va_cpy (S7.1 8) (S7.1 32) ((0 : Int32).toNatClampNeg) ((0 : Int32).toNatClampNeg) ((4 : Int32).toNatClampNeg))).1 33) ((0 : Int32).toNatClampNeg) ((0 : Int32).toNatClampNeg) ((4 : Int32).toNatClampNeg))) 34 (va_cpy ((xf (xf S7 32 (va_cpy (S7.1 8) (S7.1 32) ((0 : Int32).toNatClampNeg) ((0 : Int32).toNatClampNeg) ((4 : Int32).toNatClampNeg))) 33 (va_cpy ((xf S7 32 (va_cpy (S7.1 8) (S7.1 32) ((0 : Int32).toNatClampNeg) ((0 : Int32).toNatClampNeg) ((4 : Int32).toNatClampNeg))).1 9) ((xf S7 32 (va_cpy (S7.1 8) (S7.1 32) ((0 : Int32).toNatClampNeg) ((0 : Int32).toNatClampNeg) ((4 : Int32).toNatClampNeg))).1 33) ((0 : Int32).toNatClampNeg) ((0 : Int32).toNatClampNeg) ((4 : Int32).toNatClampNeg))).1 10) ((xf (xf S7 32 (va_cpy (S7.1 8) (S7.1 32) ((0 : Int32).toNatClampNeg) ((0 : Int32).toNatClampNeg) ((4 : Int32).toNatClampNeg))) 33 (va_cpy ((xf S7 32 (va_cpy (S7.1 8) (S7.1 32) ((0 : Int32).toNatClampNeg) ((0 : Int32).toNatClampNeg) ((4 : Int32).toNatClampNeg))).1 9) ((xf S7 32 (va_cpy (S7.1 8) (S7.1 32) ((0 : Int32).toNatClampNeg) ((0 : Int32).toNatClampNeg) ((4 : Int32).toNatClampNeg))).1 33) ((0 : Int32).toNatClampNeg) ((0 : Int32).toNatClampNeg) ((4 : Int32).toNatClampNeg))).1 34) ((0 : Int32).toNatClampNeg) ((0 : Int32).toNatClampNeg) ((4 : Int32).toNatClampNeg))).1 14) ((xf (xf (xf S7 32 (va_cpy (S7.1 8) (S7.1 32) ((0 : Int32).toNatClampNeg) ((0 : Int32).toNatClampNeg) ((4 : Int32).toNatClampNeg))) 33 (va_cpy ((xf S7 32 (va_cpy (S7.1 8) (S7.1 32) ((0 : Int32).toNatClampNeg) ((0 : Int32).toNatClampNeg) ((4 : Int32).toNatClampNeg))).1 9) ((xf S7 32 (va_cpy (S7.1 8) (S7.1 32) ((0 : Int32).toNatClampNeg) ((0 : Int32).toNatClampNeg) ((4 : Int32).toNatClampNeg))).1 33) ((0 : Int32).toNatClampNeg) ((0 : Int32).toNatClampNeg) ((4 : Int32).toNatClampNeg))) 34 (va_cpy ((xf (xf S7 32 (va_cpy (S7.1 8) (S7.1 32) ((0 : Int32).toNatClampNeg) ((0 : Int32).toNatClampNeg) ((4 : Int32).toNatClampNeg))) 33 (va_cpy ((xf S7 32 (va_cpy (S7.1 8) (S7.1 32) ((0 : Int32).toNatClampNeg) ((0 : Int32).toNatClampNeg) ((4 : Int32).toNatClampNeg))).1 9) ((xf S7 32 (va_cpy (S7.1 8) (S7.1 32) ((0 : Int32).toNatClampNeg) ((0 : Int32).toNatClampNeg) ((4 : Int32).toNatClampNeg))).1 33) ((0 : Int32).toNatClampNeg) ((0 : Int32).toNatClampNeg) ((4 : Int32).toNatClampNeg))).1 10) ((xf (xf S7 32 (va_cpy (S7.1 8) (S7.1 32) ((0 : Int32).toNatClampNeg) ((0 : Int32).toNatClampNeg) ((4 : Int32).toNatClampNeg))) 33 (va_cpy ((xf S7 32 (va_cpy (S7.1 8) (S7.1 32) ((0 : Int32).toNatClampNeg) ((0 : Int32).toNatClampNeg) ((4 : Int32).toNatClampNeg))).1 9) ((xf S7 32 (va_cpy (S7.1 8) (S7.1 32) ((0 : Int32).toNatClampNeg) ((0 : Int32).toNatClampNeg) ((4 : Int32).toNatClampNeg))).1 33) ((0 : Int32).toNatClampNeg) ((0 : Int32).toNatClampNeg) ((4 : Int32).toNatClampNeg))).1 34) ((0 : Int32).toNatClampNeg) ((0 : Int32).toNatClampNeg) ((4 : Int32).toNatClampNeg))).1 35) ((0 : Int32).toNatClampNeg) ((0 : Int32).toNatClampNeg) (((xf (xf (xf S7 32 (va_cpy (S7.1 8) (S7.1 32) ((0 : Int32).toNatClampNeg) ((0 : Int32).toNatClampNeg) ((4 : Int32).toNatClampNeg))) 33 (va_cpy ((xf S7 32 (va_cpy (S7.1 8) (S7.1 32) ((0 : Int32).toNatClampNeg) ((0 : Int32).toNatClampNeg) ((4 : Int32).toNatClampNeg))).1 9) ((xf S7 32 (va_cpy (S7.1 8) (S7.1 32) ((0 : Int32).toNatClampNeg) ((0 : Int32).toNatClampNeg) ((4 : Int32).toNatClampNeg))).1 33) ((0 : Int32).toNatClampNeg) ((0 : Int32).toNatClampNeg) ((4 : Int32).toNatClampNeg))) 34 (va_cpy ((xf (xf S7 32 (va_cpy (S7.1 8) (S7.1 32) ((0 : Int32).toNatClampNeg) ((0 : Int32).toNatClampNeg) ((4 : Int32).toNatClampNeg))) 33 (va_cpy ((xf S7 32 (va_cpy (S7.1 8) (S7.1 32) ((0 : Int32).toNatClampNeg) ((0 : Int32).toNatClampNeg) ((4 : Int32).toNatClampNeg))).1 9) ((xf S7 32 (va_cpy (S7.1 8) (S7.1 32) ((0 : Int32).toNatClampNeg) ((0 : Int32).toNatClampNeg) ((4 : Int32).toNatClampNeg))).1 33) ((0 : Int32).toNatClampNeg) ((0 : Int32).toNatClampNeg) ((4 : Int32).toNatClampNeg))).1 10) ((xf (xf S7 32 (va_cpy (S7.1 8) (S7.1 32) ((0 : Int32).toNatClampNeg) ((0 : Int32).toNatClampNeg) ((4 : Int32).toNatClampNeg))) 33 (va_cpy ((xf S7 32 (va_cpy (S7.1 8) (S7.1 32) ((0 : Int32).toNatClampNeg) ((0 : Int32).toNatClampNeg) ((4 : Int32).toNatClampNeg))).1 9) ((xf S7 32 (va_cpy (S7.1 8) (S7.1 32) ((0 : Int32).toNatClampNeg) ((0 : Int32).toNatClampNeg) ((4 : Int32).toNatClampNeg))).1 33) ((0 : Int32).toNatClampNeg) ((0 : Int32).toNatClampNeg) ((4 : Int32).toNatClampNeg))).1 34) ((0 : Int32).toNatClampNeg) ((0 : Int32).toNatClampNeg) ((4 : Int32).toNatClampNeg))).1 29 0).toNatClampNeg))).1 29 0).toNatClampNeg))) else none) else none) else none) else none) else none)))
set_option maxHeartbeats 8000000 in
set_option maxRecDepth 100000 in
theorem cx_I_keep (l : Launch) (N : Nat) (S : xS) (a2 : Int32) (S1 : xS) (hf : xf_I_keep N S a2 = some S1) : xMv l yX2_keep cX2_keep 4 3 (fun g => [.ref (xr g 2), .ref (xr g 1), .int a2]) S S1 := by
  refine xMv_of (own := RX2) (by decide) rfl (fun g => Nat.le_of_ble_eq_true rfl) ?_
  intro p e R s m args below meth c Q g A H0 H locs ls hc hR hml hw hl hQ
  have hl : lv_has ls 4 [(0, .ref (xr g 2)), (1, .ref (xr g 1)), (2, .int a2)] := hl
  have hx := hc.1
  have hb := hc.2.1
  unfold xf_I_keep at hf
  refine lv_aload_n hx hb dX2_keep_0 rfl (lv_at hl 0 rfl) ?_
  refine lv_iconst (v := 1) hx hb dX2_keep_1 (by decide) ?_
  refine x_p_image_isThere hc hw fl_2_9 rfl rfl dX2_keep_2 (fun H locs hw => ?_)
  refine lv_aload_n hx hb dX2_keep_5 rfl (lv_at hl 0 rfl) ?_
  refine lv_iload_n hx hb dX2_keep_6 rfl (lv_at hl 2 rfl) ?_
  refine x_p_image_law hc hw fl_2_15 dX2_keep_7 (fun H locs hw => ?_)
  refine lv_aload_n hx hb dX2_keep_10 rfl (lv_at hl 0 rfl) ?_
  refine lv_aload_n hx hb dX2_keep_11 rfl (lv_at hl 1 rfl) ?_
  refine x_g_hall_rowCount hc hw fl_2_50 dX2_keep_12 ?_
  refine x_p_image_rowCount hc hw fl_2_19 dX2_keep_15 (fun H locs hw => ?_)
  refine lv_aload_n hx hb dX2_keep_18 rfl (lv_at hl 0 rfl) ?_
  refine lv_aload_n hx hb dX2_keep_19 rfl (lv_at hl 1 rfl) ?_
  refine x_g_hall_postCount hc hw fl_2_53 dX2_keep_20 ?_
  refine x_p_image_postCount hc hw fl_2_22 dX2_keep_23 (fun H locs hw => ?_)
  refine lv_aload_n hx hb dX2_keep_26 rfl (lv_at hl 0 rfl) ?_
  refine lv_aload_n hx hb dX2_keep_27 rfl (lv_at hl 1 rfl) ?_
  obtain ⟨v1, hcall, hf⟩ := bd1_some hf
  refine x_cvi (As := []) (rest := [.ref (xr g 2)]) hc hw hR (hml.trans hl.1.symm) (cx_H_allShifts l N (xs (xs (xs (xs S 26 0 1) 27 0 a2) 28 0 ((xs (xs S 26 0 1) 27 0 a2).1 16 0)) 29 0 ((xs (xs (xs S 26 0 1) 27 0 a2) 28 0 ((xs (xs S 26 0 1) 27 0 a2).1 16 0)).1 18 0)) v1 hcall) xq_2_H_allShifts (x_recv_hall hw) (by decide) rfl rfl rfl (Nat.le_of_ble_eq_true rfl) dX2_keep_28 (fun H locs hw => ?_) ⟨Nat.zero_le _, Nat.zero_le _⟩
  refine x_p_image_shifts hc hw fl_2_47 dX2_keep_31 (fun H locs hw => ?_)
  refine lv_iconst (v := 0) hx hb dX2_keep_34 (by decide) ?_
  refine lv_istore_n (lv' := [(3, .int 0), (0, .ref (xr g 2)), (1, .ref (xr g 1)), (2, .int a2)]) hx hb dX2_keep_35 rfl hl (by decide) rfl (fun ls hl => ?_)
  obtain ⟨S7, hL, hf⟩ := bd1_some hf
  refine wx_I_keep_L36 hc hR hml N N _ _ _ _ _ _ hL hw (lv_sub hl [1, 2, 0] rfl) (fun H locs ls hw hl => ?_)
  refine lv_aload_n hx hb dX2_keep_88 rfl (lv_at hl 1 rfl) ?_
  refine x_g_hall_eyes hc hw fl_2_74 dX2_keep_89 ?_
  refine lv_iconst (v := 0) hx hb dX2_keep_92 (by decide) ?_
  refine lv_aload_n hx hb dX2_keep_93 rfl (lv_at hl 0 rfl) ?_
  refine x_g_image_eyes hc hw fl_2_32 dX2_keep_94 ?_
  refine lv_iconst (v := 0) hx hb dX2_keep_97 (by decide) ?_
  refine lv_iconst (v := 4) hx hb dX2_keep_98 (by decide) ?_
  obtain ⟨hk8, hf⟩ := gd_some hf
  refine x_copy (S1 := xf S7 32 (va_cpy (S7.1 8) (S7.1 32) ((0 : Int32).toNatClampNeg) ((0 : Int32).toNatClampNeg) ((4 : Int32).toNatClampNeg))) hc hw hR (by decide) (hml.trans hl.1.symm) (mem_g 1088 (by decide +kernel) rfl) (mem_g 463 (by decide +kernel) rfl) (mem_g 462 (by decide +kernel) rfl) (mem_g 88 (by decide +kernel) rfl) (Nat.le_of_ble_eq_true rfl) ((xW_A (k := 12) (by decide)).trans rfl) ((xW_A (k := 21) (by decide)).trans rfl) (xW_setA (k := 21) (by decide) rfl (xf_R (k := 32) (by decide)) (xf_T (k := 32) (by decide))) hk8 dX2_keep_99 (fun H locs hw => ?_)
  refine lv_aload_n hx hb dX2_keep_102 rfl (lv_at hl 1 rfl) ?_
  refine x_g_hall_heads hc hw fl_2_75 dX2_keep_103 ?_
  refine lv_iconst (v := 0) hx hb dX2_keep_106 (by decide) ?_
  refine lv_aload_n hx hb dX2_keep_107 rfl (lv_at hl 0 rfl) ?_
  refine x_g_image_heads hc hw fl_2_35 dX2_keep_108 ?_
  refine lv_iconst (v := 0) hx hb dX2_keep_111 (by decide) ?_
  refine lv_iconst (v := 4) hx hb dX2_keep_112 (by decide) ?_
  obtain ⟨hk9, hf⟩ := gd_some hf
  refine x_copy (S1 := xf (xf S7 32 (va_cpy (S7.1 8) (S7.1 32) ((0 : Int32).toNatClampNeg) ((0 : Int32).toNatClampNeg) ((4 : Int32).toNatClampNeg))) 33 (va_cpy ((xf S7 32 (va_cpy (S7.1 8) (S7.1 32) ((0 : Int32).toNatClampNeg) ((0 : Int32).toNatClampNeg) ((4 : Int32).toNatClampNeg))).1 9) ((xf S7 32 (va_cpy (S7.1 8) (S7.1 32) ((0 : Int32).toNatClampNeg) ((0 : Int32).toNatClampNeg) ((4 : Int32).toNatClampNeg))).1 33) ((0 : Int32).toNatClampNeg) ((0 : Int32).toNatClampNeg) ((4 : Int32).toNatClampNeg))) hc hw hR (by decide) (hml.trans hl.1.symm) (mem_g 1088 (by decide +kernel) rfl) (mem_g 463 (by decide +kernel) rfl) (mem_g 462 (by decide +kernel) rfl) (mem_g 88 (by decide +kernel) rfl) (Nat.le_of_ble_eq_true rfl) ((xW_A (k := 13) (by decide)).trans rfl) ((xW_A (k := 22) (by decide)).trans rfl) (xW_setA (k := 22) (by decide) rfl (xf_R (k := 33) (by decide)) (xf_T (k := 33) (by decide))) hk9 dX2_keep_113 (fun H locs hw => ?_)
  refine lv_aload_n hx hb dX2_keep_116 rfl (lv_at hl 1 rfl) ?_
  refine x_g_hall_counts hc hw fl_2_76 dX2_keep_117 ?_
  refine lv_iconst (v := 0) hx hb dX2_keep_120 (by decide) ?_
  refine lv_aload_n hx hb dX2_keep_121 rfl (lv_at hl 0 rfl) ?_
  refine x_g_image_counts hc hw fl_2_38 dX2_keep_122 ?_
  refine lv_iconst (v := 0) hx hb dX2_keep_125 (by decide) ?_
  refine lv_iconst (v := 4) hx hb dX2_keep_126 (by decide) ?_
  obtain ⟨hk10, hf⟩ := gd_some hf
  refine x_copy (S1 := xf (xf (xf S7 32 (va_cpy (S7.1 8) (S7.1 32) ((0 : Int32).toNatClampNeg) ((0 : Int32).toNatClampNeg) ((4 : Int32).toNatClampNeg))) 33 (va_cpy ((xf S7 32 (va_cpy (S7.1 8) (S7.1 32) ((0 : Int32).toNatClampNeg) ((0 : Int32).toNatClampNeg) ((4 : Int32).toNatClampNeg))).1 9) ((xf S7 32 (va_cpy (S7.1 8) (S7.1 32) ((0 : Int32).toNatClampNeg) ((0 : Int32).toNatClampNeg) ((4 : Int32).toNatClampNeg))).1 33) ((0 : Int32).toNatClampNeg) ((0 : Int32).toNatClampNeg) ((4 : Int32).toNatClampNeg))) 34 (va_cpy ((xf (xf S7 32 (va_cpy (S7.1 8) (S7.1 32) ((0 : Int32).toNatClampNeg) ((0 : Int32).toNatClampNeg) ((4 : Int32).toNatClampNeg))) 33 (va_cpy ((xf S7 32 (va_cpy (S7.1 8) (S7.1 32) ((0 : Int32).toNatClampNeg) ((0 : Int32).toNatClampNeg) ((4 : Int32).toNatClampNeg))).1 9) ((xf S7 32 (va_cpy (S7.1 8) (S7.1 32) ((0 : Int32).toNatClampNeg) ((0 : Int32).toNatClampNeg) ((4 : Int32).toNatClampNeg))).1 33) ((0 : Int32).toNatClampNeg) ((0 : Int32).toNatClampNeg) ((4 : Int32).toNatClampNeg))).1 10) ((xf (xf S7 32 (va_cpy (S7.1 8) (S7.1 32) ((0 : Int32).toNatClampNeg) ((0 : Int32).toNatClampNeg) ((4 : Int32).toNatClampNeg))) 33 (va_cpy ((xf S7 32 (va_cpy (S7.1 8) (S7.1 32) ((0 : Int32).toNatClampNeg) ((0 : Int32).toNatClampNeg) ((4 : Int32).toNatClampNeg))).1 9) ((xf S7 32 (va_cpy (S7.1 8) (S7.1 32) ((0 : Int32).toNatClampNeg) ((0 : Int32).toNatClampNeg) ((4 : Int32).toNatClampNeg))).1 33) ((0 : Int32).toNatClampNeg) ((0 : Int32).toNatClampNeg) ((4 : Int32).toNatClampNeg))).1 34) ((0 : Int32).toNatClampNeg) ((0 : Int32).toNatClampNeg) ((4 : Int32).toNatClampNeg))) hc hw hR (by decide) (hml.trans hl.1.symm) (mem_g 1088 (by decide +kernel) rfl) (mem_g 463 (by decide +kernel) rfl) (mem_g 462 (by decide +kernel) rfl) (mem_g 88 (by decide +kernel) rfl) (Nat.le_of_ble_eq_true rfl) ((xW_A (k := 11) (by decide)).trans rfl) ((xW_A (k := 20) (by decide)).trans rfl) (xW_setA (k := 20) (by decide) rfl (xf_R (k := 34) (by decide)) (xf_T (k := 34) (by decide))) hk10 dX2_keep_127 (fun H locs hw => ?_)
  refine lv_aload_n hx hb dX2_keep_130 rfl (lv_at hl 1 rfl) ?_
  refine x_g_hall_postPlaces hc hw fl_2_77 dX2_keep_131 ?_
  refine lv_iconst (v := 0) hx hb dX2_keep_134 (by decide) ?_
  refine lv_aload_n hx hb dX2_keep_135 rfl (lv_at hl 0 rfl) ?_
  refine x_g_image_postPlaces hc hw fl_2_41 dX2_keep_136 ?_
  refine lv_iconst (v := 0) hx hb dX2_keep_139 (by decide) ?_
  refine lv_aload_n hx hb dX2_keep_140 rfl (lv_at hl 0 rfl) ?_
  refine x_g_image_postCount hc hw fl_2_22 dX2_keep_141 ?_
  obtain ⟨hk11, hf⟩ := gd_some hf
  refine x_copy (S1 := xf (xf (xf (xf S7 32 (va_cpy (S7.1 8) (S7.1 32) ((0 : Int32).toNatClampNeg) ((0 : Int32).toNatClampNeg) ((4 : Int32).toNatClampNeg))) 33 (va_cpy ((xf S7 32 (va_cpy (S7.1 8) (S7.1 32) ((0 : Int32).toNatClampNeg) ((0 : Int32).toNatClampNeg) ((4 : Int32).toNatClampNeg))).1 9) ((xf S7 32 (va_cpy (S7.1 8) (S7.1 32) ((0 : Int32).toNatClampNeg) ((0 : Int32).toNatClampNeg) ((4 : Int32).toNatClampNeg))).1 33) ((0 : Int32).toNatClampNeg) ((0 : Int32).toNatClampNeg) ((4 : Int32).toNatClampNeg))) 34 (va_cpy ((xf (xf S7 32 (va_cpy (S7.1 8) (S7.1 32) ((0 : Int32).toNatClampNeg) ((0 : Int32).toNatClampNeg) ((4 : Int32).toNatClampNeg))) 33 (va_cpy ((xf S7 32 (va_cpy (S7.1 8) (S7.1 32) ((0 : Int32).toNatClampNeg) ((0 : Int32).toNatClampNeg) ((4 : Int32).toNatClampNeg))).1 9) ((xf S7 32 (va_cpy (S7.1 8) (S7.1 32) ((0 : Int32).toNatClampNeg) ((0 : Int32).toNatClampNeg) ((4 : Int32).toNatClampNeg))).1 33) ((0 : Int32).toNatClampNeg) ((0 : Int32).toNatClampNeg) ((4 : Int32).toNatClampNeg))).1 10) ((xf (xf S7 32 (va_cpy (S7.1 8) (S7.1 32) ((0 : Int32).toNatClampNeg) ((0 : Int32).toNatClampNeg) ((4 : Int32).toNatClampNeg))) 33 (va_cpy ((xf S7 32 (va_cpy (S7.1 8) (S7.1 32) ((0 : Int32).toNatClampNeg) ((0 : Int32).toNatClampNeg) ((4 : Int32).toNatClampNeg))).1 9) ((xf S7 32 (va_cpy (S7.1 8) (S7.1 32) ((0 : Int32).toNatClampNeg) ((0 : Int32).toNatClampNeg) ((4 : Int32).toNatClampNeg))).1 33) ((0 : Int32).toNatClampNeg) ((0 : Int32).toNatClampNeg) ((4 : Int32).toNatClampNeg))).1 34) ((0 : Int32).toNatClampNeg) ((0 : Int32).toNatClampNeg) ((4 : Int32).toNatClampNeg))) 35 (va_cpy ((xf (xf (xf S7 32 (va_cpy (S7.1 8) (S7.1 32) ((0 : Int32).toNatClampNeg) ((0 : Int32).toNatClampNeg) ((4 : Int32).toNatClampNeg))) 33 (va_cpy ((xf S7 32 (va_cpy (S7.1 8) (S7.1 32) ((0 : Int32).toNatClampNeg) ((0 : Int32).toNatClampNeg) ((4 : Int32).toNatClampNeg))).1 9) ((xf S7 32 (va_cpy (S7.1 8) (S7.1 32) ((0 : Int32).toNatClampNeg) ((0 : Int32).toNatClampNeg) ((4 : Int32).toNatClampNeg))).1 33) ((0 : Int32).toNatClampNeg) ((0 : Int32).toNatClampNeg) ((4 : Int32).toNatClampNeg))) 34 (va_cpy ((xf (xf S7 32 (va_cpy (S7.1 8) (S7.1 32) ((0 : Int32).toNatClampNeg) ((0 : Int32).toNatClampNeg) ((4 : Int32).toNatClampNeg))) 33 (va_cpy ((xf S7 32 (va_cpy (S7.1 8) (S7.1 32) ((0 : Int32).toNatClampNeg) ((0 : Int32).toNatClampNeg) ((4 : Int32).toNatClampNeg))).1 9) ((xf S7 32 (va_cpy (S7.1 8) (S7.1 32) ((0 : Int32).toNatClampNeg) ((0 : Int32).toNatClampNeg) ((4 : Int32).toNatClampNeg))).1 33) ((0 : Int32).toNatClampNeg) ((0 : Int32).toNatClampNeg) ((4 : Int32).toNatClampNeg))).1 10) ((xf (xf S7 32 (va_cpy (S7.1 8) (S7.1 32) ((0 : Int32).toNatClampNeg) ((0 : Int32).toNatClampNeg) ((4 : Int32).toNatClampNeg))) 33 (va_cpy ((xf S7 32 (va_cpy (S7.1 8) (S7.1 32) ((0 : Int32).toNatClampNeg) ((0 : Int32).toNatClampNeg) ((4 : Int32).toNatClampNeg))).1 9) ((xf S7 32 (va_cpy (S7.1 8) (S7.1 32) ((0 : Int32).toNatClampNeg) ((0 : Int32).toNatClampNeg) ((4 : Int32).toNatClampNeg))).1 33) ((0 : Int32).toNatClampNeg) ((0 : Int32).toNatClampNeg) ((4 : Int32).toNatClampNeg))).1 34) ((0 : Int32).toNatClampNeg) ((0 : Int32).toNatClampNeg) ((4 : Int32).toNatClampNeg))).1 14) ((xf (xf (xf S7 32 (va_cpy (S7.1 8) (S7.1 32) ((0 : Int32).toNatClampNeg) ((0 : Int32).toNatClampNeg) ((4 : Int32).toNatClampNeg))) 33 (va_cpy ((xf S7 32 (va_cpy (S7.1 8) (S7.1 32) ((0 : Int32).toNatClampNeg) ((0 : Int32).toNatClampNeg) ((4 : Int32).toNatClampNeg))).1 9) ((xf S7 32 (va_cpy (S7.1 8) (S7.1 32) ((0 : Int32).toNatClampNeg) ((0 : Int32).toNatClampNeg) ((4 : Int32).toNatClampNeg))).1 33) ((0 : Int32).toNatClampNeg) ((0 : Int32).toNatClampNeg) ((4 : Int32).toNatClampNeg))) 34 (va_cpy ((xf (xf S7 32 (va_cpy (S7.1 8) (S7.1 32) ((0 : Int32).toNatClampNeg) ((0 : Int32).toNatClampNeg) ((4 : Int32).toNatClampNeg))) 33 (va_cpy ((xf S7 32 (va_cpy (S7.1 8) (S7.1 32) ((0 : Int32).toNatClampNeg) ((0 : Int32).toNatClampNeg) ((4 : Int32).toNatClampNeg))).1 9) ((xf S7 32 (va_cpy (S7.1 8) (S7.1 32) ((0 : Int32).toNatClampNeg) ((0 : Int32).toNatClampNeg) ((4 : Int32).toNatClampNeg))).1 33) ((0 : Int32).toNatClampNeg) ((0 : Int32).toNatClampNeg) ((4 : Int32).toNatClampNeg))).1 10) ((xf (xf S7 32 (va_cpy (S7.1 8) (S7.1 32) ((0 : Int32).toNatClampNeg) ((0 : Int32).toNatClampNeg) ((4 : Int32).toNatClampNeg))) 33 (va_cpy ((xf S7 32 (va_cpy (S7.1 8) (S7.1 32) ((0 : Int32).toNatClampNeg) ((0 : Int32).toNatClampNeg) ((4 : Int32).toNatClampNeg))).1 9) ((xf S7 32 (va_cpy (S7.1 8) (S7.1 32) ((0 : Int32).toNatClampNeg) ((0 : Int32).toNatClampNeg) ((4 : Int32).toNatClampNeg))).1 33) ((0 : Int32).toNatClampNeg) ((0 : Int32).toNatClampNeg) ((4 : Int32).toNatClampNeg))).1 34) ((0 : Int32).toNatClampNeg) ((0 : Int32).toNatClampNeg) ((4 : Int32).toNatClampNeg))).1 35) ((0 : Int32).toNatClampNeg) ((0 : Int32).toNatClampNeg) (((xf (xf (xf S7 32 (va_cpy (S7.1 8) (S7.1 32) ((0 : Int32).toNatClampNeg) ((0 : Int32).toNatClampNeg) ((4 : Int32).toNatClampNeg))) 33 (va_cpy ((xf S7 32 (va_cpy (S7.1 8) (S7.1 32) ((0 : Int32).toNatClampNeg) ((0 : Int32).toNatClampNeg) ((4 : Int32).toNatClampNeg))).1 9) ((xf S7 32 (va_cpy (S7.1 8) (S7.1 32) ((0 : Int32).toNatClampNeg) ((0 : Int32).toNatClampNeg) ((4 : Int32).toNatClampNeg))).1 33) ((0 : Int32).toNatClampNeg) ((0 : Int32).toNatClampNeg) ((4 : Int32).toNatClampNeg))) 34 (va_cpy ((xf (xf S7 32 (va_cpy (S7.1 8) (S7.1 32) ((0 : Int32).toNatClampNeg) ((0 : Int32).toNatClampNeg) ((4 : Int32).toNatClampNeg))) 33 (va_cpy ((xf S7 32 (va_cpy (S7.1 8) (S7.1 32) ((0 : Int32).toNatClampNeg) ((0 : Int32).toNatClampNeg) ((4 : Int32).toNatClampNeg))).1 9) ((xf S7 32 (va_cpy (S7.1 8) (S7.1 32) ((0 : Int32).toNatClampNeg) ((0 : Int32).toNatClampNeg) ((4 : Int32).toNatClampNeg))).1 33) ((0 : Int32).toNatClampNeg) ((0 : Int32).toNatClampNeg) ((4 : Int32).toNatClampNeg))).1 10) ((xf (xf S7 32 (va_cpy (S7.1 8) (S7.1 32) ((0 : Int32).toNatClampNeg) ((0 : Int32).toNatClampNeg) ((4 : Int32).toNatClampNeg))) 33 (va_cpy ((xf S7 32 (va_cpy (S7.1 8) (S7.1 32) ((0 : Int32).toNatClampNeg) ((0 : Int32).toNatClampNeg) ((4 : Int32).toNatClampNeg))).1 9) ((xf S7 32 (va_cpy (S7.1 8) (S7.1 32) ((0 : Int32).toNatClampNeg) ((0 : Int32).toNatClampNeg) ((4 : Int32).toNatClampNeg))).1 33) ((0 : Int32).toNatClampNeg) ((0 : Int32).toNatClampNeg) ((4 : Int32).toNatClampNeg))).1 34) ((0 : Int32).toNatClampNeg) ((0 : Int32).toNatClampNeg) ((4 : Int32).toNatClampNeg))).1 29 0).toNatClampNeg))) hc hw hR (by decide) (hml.trans hl.1.symm) (mem_g 1088 (by decide +kernel) rfl) (mem_g 463 (by decide +kernel) rfl) (mem_g 462 (by decide +kernel) rfl) (mem_g 88 (by decide +kernel) rfl) (Nat.le_of_ble_eq_true rfl) ((xW_A (k := 19) (by decide)).trans rfl) ((xW_A (k := 24) (by decide)).trans rfl) (xW_setA (k := 24) (by decide) rfl (xf_R (k := 35) (by decide)) (xf_T (k := 35) (by decide))) hk11 dX2_keep_144 (fun H locs hw => ?_)
  refine lv_aload_n hx hb dX2_keep_147 rfl (lv_at hl 1 rfl) ?_
  refine x_g_hall_postFars hc hw fl_2_78 dX2_keep_148 ?_
  refine lv_iconst (v := 0) hx hb dX2_keep_151 (by decide) ?_
  refine lv_aload_n hx hb dX2_keep_152 rfl (lv_at hl 0 rfl) ?_
  refine x_g_image_postFars hc hw fl_2_44 dX2_keep_153 ?_
  refine lv_iconst (v := 0) hx hb dX2_keep_156 (by decide) ?_
  refine lv_aload_n hx hb dX2_keep_157 rfl (lv_at hl 0 rfl) ?_
  refine x_g_image_postCount hc hw fl_2_22 dX2_keep_158 ?_
  obtain ⟨hk12, hf⟩ := gd_some hf
  refine x_copy (S1 := xf (xf (xf (xf (xf S7 32 (va_cpy (S7.1 8) (S7.1 32) ((0 : Int32).toNatClampNeg) ((0 : Int32).toNatClampNeg) ((4 : Int32).toNatClampNeg))) 33 (va_cpy ((xf S7 32 (va_cpy (S7.1 8) (S7.1 32) ((0 : Int32).toNatClampNeg) ((0 : Int32).toNatClampNeg) ((4 : Int32).toNatClampNeg))).1 9) ((xf S7 32 (va_cpy (S7.1 8) (S7.1 32) ((0 : Int32).toNatClampNeg) ((0 : Int32).toNatClampNeg) ((4 : Int32).toNatClampNeg))).1 33) ((0 : Int32).toNatClampNeg) ((0 : Int32).toNatClampNeg) ((4 : Int32).toNatClampNeg))) 34 (va_cpy ((xf (xf S7 32 (va_cpy (S7.1 8) (S7.1 32) ((0 : Int32).toNatClampNeg) ((0 : Int32).toNatClampNeg) ((4 : Int32).toNatClampNeg))) 33 (va_cpy ((xf S7 32 (va_cpy (S7.1 8) (S7.1 32) ((0 : Int32).toNatClampNeg) ((0 : Int32).toNatClampNeg) ((4 : Int32).toNatClampNeg))).1 9) ((xf S7 32 (va_cpy (S7.1 8) (S7.1 32) ((0 : Int32).toNatClampNeg) ((0 : Int32).toNatClampNeg) ((4 : Int32).toNatClampNeg))).1 33) ((0 : Int32).toNatClampNeg) ((0 : Int32).toNatClampNeg) ((4 : Int32).toNatClampNeg))).1 10) ((xf (xf S7 32 (va_cpy (S7.1 8) (S7.1 32) ((0 : Int32).toNatClampNeg) ((0 : Int32).toNatClampNeg) ((4 : Int32).toNatClampNeg))) 33 (va_cpy ((xf S7 32 (va_cpy (S7.1 8) (S7.1 32) ((0 : Int32).toNatClampNeg) ((0 : Int32).toNatClampNeg) ((4 : Int32).toNatClampNeg))).1 9) ((xf S7 32 (va_cpy (S7.1 8) (S7.1 32) ((0 : Int32).toNatClampNeg) ((0 : Int32).toNatClampNeg) ((4 : Int32).toNatClampNeg))).1 33) ((0 : Int32).toNatClampNeg) ((0 : Int32).toNatClampNeg) ((4 : Int32).toNatClampNeg))).1 34) ((0 : Int32).toNatClampNeg) ((0 : Int32).toNatClampNeg) ((4 : Int32).toNatClampNeg))) 35 (va_cpy ((xf (xf (xf S7 32 (va_cpy (S7.1 8) (S7.1 32) ((0 : Int32).toNatClampNeg) ((0 : Int32).toNatClampNeg) ((4 : Int32).toNatClampNeg))) 33 (va_cpy ((xf S7 32 (va_cpy (S7.1 8) (S7.1 32) ((0 : Int32).toNatClampNeg) ((0 : Int32).toNatClampNeg) ((4 : Int32).toNatClampNeg))).1 9) ((xf S7 32 (va_cpy (S7.1 8) (S7.1 32) ((0 : Int32).toNatClampNeg) ((0 : Int32).toNatClampNeg) ((4 : Int32).toNatClampNeg))).1 33) ((0 : Int32).toNatClampNeg) ((0 : Int32).toNatClampNeg) ((4 : Int32).toNatClampNeg))) 34 (va_cpy ((xf (xf S7 32 (va_cpy (S7.1 8) (S7.1 32) ((0 : Int32).toNatClampNeg) ((0 : Int32).toNatClampNeg) ((4 : Int32).toNatClampNeg))) 33 (va_cpy ((xf S7 32 (va_cpy (S7.1 8) (S7.1 32) ((0 : Int32).toNatClampNeg) ((0 : Int32).toNatClampNeg) ((4 : Int32).toNatClampNeg))).1 9) ((xf S7 32 (va_cpy (S7.1 8) (S7.1 32) ((0 : Int32).toNatClampNeg) ((0 : Int32).toNatClampNeg) ((4 : Int32).toNatClampNeg))).1 33) ((0 : Int32).toNatClampNeg) ((0 : Int32).toNatClampNeg) ((4 : Int32).toNatClampNeg))).1 10) ((xf (xf S7 32 (va_cpy (S7.1 8) (S7.1 32) ((0 : Int32).toNatClampNeg) ((0 : Int32).toNatClampNeg) ((4 : Int32).toNatClampNeg))) 33 (va_cpy ((xf S7 32 (va_cpy (S7.1 8) (S7.1 32) ((0 : Int32).toNatClampNeg) ((0 : Int32).toNatClampNeg) ((4 : Int32).toNatClampNeg))).1 9) ((xf S7 32 (va_cpy (S7.1 8) (S7.1 32) ((0 : Int32).toNatClampNeg) ((0 : Int32).toNatClampNeg) ((4 : Int32).toNatClampNeg))).1 33) ((0 : Int32).toNatClampNeg) ((0 : Int32).toNatClampNeg) ((4 : Int32).toNatClampNeg))).1 34) ((0 : Int32).toNatClampNeg) ((0 : Int32).toNatClampNeg) ((4 : Int32).toNatClampNeg))).1 14) ((xf (xf (xf S7 32 (va_cpy (S7.1 8) (S7.1 32) ((0 : Int32).toNatClampNeg) ((0 : Int32).toNatClampNeg) ((4 : Int32).toNatClampNeg))) 33 (va_cpy ((xf S7 32 (va_cpy (S7.1 8) (S7.1 32) ((0 : Int32).toNatClampNeg) ((0 : Int32).toNatClampNeg) ((4 : Int32).toNatClampNeg))).1 9) ((xf S7 32 (va_cpy (S7.1 8) (S7.1 32) ((0 : Int32).toNatClampNeg) ((0 : Int32).toNatClampNeg) ((4 : Int32).toNatClampNeg))).1 33) ((0 : Int32).toNatClampNeg) ((0 : Int32).toNatClampNeg) ((4 : Int32).toNatClampNeg))) 34 (va_cpy ((xf (xf S7 32 (va_cpy (S7.1 8) (S7.1 32) ((0 : Int32).toNatClampNeg) ((0 : Int32).toNatClampNeg) ((4 : Int32).toNatClampNeg))) 33 (va_cpy ((xf S7 32 (va_cpy (S7.1 8) (S7.1 32) ((0 : Int32).toNatClampNeg) ((0 : Int32).toNatClampNeg) ((4 : Int32).toNatClampNeg))).1 9) ((xf S7 32 (va_cpy (S7.1 8) (S7.1 32) ((0 : Int32).toNatClampNeg) ((0 : Int32).toNatClampNeg) ((4 : Int32).toNatClampNeg))).1 33) ((0 : Int32).toNatClampNeg) ((0 : Int32).toNatClampNeg) ((4 : Int32).toNatClampNeg))).1 10) ((xf (xf S7 32 (va_cpy (S7.1 8) (S7.1 32) ((0 : Int32).toNatClampNeg) ((0 : Int32).toNatClampNeg) ((4 : Int32).toNatClampNeg))) 33 (va_cpy ((xf S7 32 (va_cpy (S7.1 8) (S7.1 32) ((0 : Int32).toNatClampNeg) ((0 : Int32).toNatClampNeg) ((4 : Int32).toNatClampNeg))).1 9) ((xf S7 32 (va_cpy (S7.1 8) (S7.1 32) ((0 : Int32).toNatClampNeg) ((0 : Int32).toNatClampNeg) ((4 : Int32).toNatClampNeg))).1 33) ((0 : Int32).toNatClampNeg) ((0 : Int32).toNatClampNeg) ((4 : Int32).toNatClampNeg))).1 34) ((0 : Int32).toNatClampNeg) ((0 : Int32).toNatClampNeg) ((4 : Int32).toNatClampNeg))).1 35) ((0 : Int32).toNatClampNeg) ((0 : Int32).toNatClampNeg) (((xf (xf (xf S7 32 (va_cpy (S7.1 8) (S7.1 32) ((0 : Int32).toNatClampNeg) ((0 : Int32).toNatClampNeg) ((4 : Int32).toNatClampNeg))) 33 (va_cpy ((xf S7 32 (va_cpy (S7.1 8) (S7.1 32) ((0 : Int32).toNatClampNeg) ((0 : Int32).toNatClampNeg) ((4 : Int32).toNatClampNeg))).1 9) ((xf S7 32 (va_cpy (S7.1 8) (S7.1 32) ((0 : Int32).toNatClampNeg) ((0 : Int32).toNatClampNeg) ((4 : Int32).toNatClampNeg))).1 33) ((0 : Int32).toNatClampNeg) ((0 : Int32).toNatClampNeg) ((4 : Int32).toNatClampNeg))) 34 (va_cpy ((xf (xf S7 32 (va_cpy (S7.1 8) (S7.1 32) ((0 : Int32).toNatClampNeg) ((0 : Int32).toNatClampNeg) ((4 : Int32).toNatClampNeg))) 33 (va_cpy ((xf S7 32 (va_cpy (S7.1 8) (S7.1 32) ((0 : Int32).toNatClampNeg) ((0 : Int32).toNatClampNeg) ((4 : Int32).toNatClampNeg))).1 9) ((xf S7 32 (va_cpy (S7.1 8) (S7.1 32) ((0 : Int32).toNatClampNeg) ((0 : Int32).toNatClampNeg) ((4 : Int32).toNatClampNeg))).1 33) ((0 : Int32).toNatClampNeg) ((0 : Int32).toNatClampNeg) ((4 : Int32).toNatClampNeg))).1 10) ((xf (xf S7 32 (va_cpy (S7.1 8) (S7.1 32) ((0 : Int32).toNatClampNeg) ((0 : Int32).toNatClampNeg) ((4 : Int32).toNatClampNeg))) 33 (va_cpy ((xf S7 32 (va_cpy (S7.1 8) (S7.1 32) ((0 : Int32).toNatClampNeg) ((0 : Int32).toNatClampNeg) ((4 : Int32).toNatClampNeg))).1 9) ((xf S7 32 (va_cpy (S7.1 8) (S7.1 32) ((0 : Int32).toNatClampNeg) ((0 : Int32).toNatClampNeg) ((4 : Int32).toNatClampNeg))).1 33) ((0 : Int32).toNatClampNeg) ((0 : Int32).toNatClampNeg) ((4 : Int32).toNatClampNeg))).1 34) ((0 : Int32).toNatClampNeg) ((0 : Int32).toNatClampNeg) ((4 : Int32).toNatClampNeg))).1 29 0).toNatClampNeg))) 36 (va_cpy ((xf (xf (xf (xf S7 32 (va_cpy (S7.1 8) (S7.1 32) ((0 : Int32).toNatClampNeg) ((0 : Int32).toNatClampNeg) ((4 : Int32).toNatClampNeg))) 33 (va_cpy ((xf S7 32 (va_cpy (S7.1 8) (S7.1 32) ((0 : Int32).toNatClampNeg) ((0 : Int32).toNatClampNeg) ((4 : Int32).toNatClampNeg))).1 9) ((xf S7 32 (va_cpy (S7.1 8) (S7.1 32) ((0 : Int32).toNatClampNeg) ((0 : Int32).toNatClampNeg) ((4 : Int32).toNatClampNeg))).1 33) ((0 : Int32).toNatClampNeg) ((0 : Int32).toNatClampNeg) ((4 : Int32).toNatClampNeg))) 34 (va_cpy ((xf (xf S7 32 (va_cpy (S7.1 8) (S7.1 32) ((0 : Int32).toNatClampNeg) ((0 : Int32).toNatClampNeg) ((4 : Int32).toNatClampNeg))) 33 (va_cpy ((xf S7 32 (va_cpy (S7.1 8) (S7.1 32) ((0 : Int32).toNatClampNeg) ((0 : Int32).toNatClampNeg) ((4 : Int32).toNatClampNeg))).1 9) ((xf S7 32 (va_cpy (S7.1 8) (S7.1 32) ((0 : Int32).toNatClampNeg) ((0 : Int32).toNatClampNeg) ((4 : Int32).toNatClampNeg))).1 33) ((0 : Int32).toNatClampNeg) ((0 : Int32).toNatClampNeg) ((4 : Int32).toNatClampNeg))).1 10) ((xf (xf S7 32 (va_cpy (S7.1 8) (S7.1 32) ((0 : Int32).toNatClampNeg) ((0 : Int32).toNatClampNeg) ((4 : Int32).toNatClampNeg))) 33 (va_cpy ((xf S7 32 (va_cpy (S7.1 8) (S7.1 32) ((0 : Int32).toNatClampNeg) ((0 : Int32).toNatClampNeg) ((4 : Int32).toNatClampNeg))).1 9) ((xf S7 32 (va_cpy (S7.1 8) (S7.1 32) ((0 : Int32).toNatClampNeg) ((0 : Int32).toNatClampNeg) ((4 : Int32).toNatClampNeg))).1 33) ((0 : Int32).toNatClampNeg) ((0 : Int32).toNatClampNeg) ((4 : Int32).toNatClampNeg))).1 34) ((0 : Int32).toNatClampNeg) ((0 : Int32).toNatClampNeg) ((4 : Int32).toNatClampNeg))) 35 (va_cpy ((xf (xf (xf S7 32 (va_cpy (S7.1 8) (S7.1 32) ((0 : Int32).toNatClampNeg) ((0 : Int32).toNatClampNeg) ((4 : Int32).toNatClampNeg))) 33 (va_cpy ((xf S7 32 (va_cpy (S7.1 8) (S7.1 32) ((0 : Int32).toNatClampNeg) ((0 : Int32).toNatClampNeg) ((4 : Int32).toNatClampNeg))).1 9) ((xf S7 32 (va_cpy (S7.1 8) (S7.1 32) ((0 : Int32).toNatClampNeg) ((0 : Int32).toNatClampNeg) ((4 : Int32).toNatClampNeg))).1 33) ((0 : Int32).toNatClampNeg) ((0 : Int32).toNatClampNeg) ((4 : Int32).toNatClampNeg))) 34 (va_cpy ((xf (xf S7 32 (va_cpy (S7.1 8) (S7.1 32) ((0 : Int32).toNatClampNeg) ((0 : Int32).toNatClampNeg) ((4 : Int32).toNatClampNeg))) 33 (va_cpy ((xf S7 32 (va_cpy (S7.1 8) (S7.1 32) ((0 : Int32).toNatClampNeg) ((0 : Int32).toNatClampNeg) ((4 : Int32).toNatClampNeg))).1 9) ((xf S7 32 (va_cpy (S7.1 8) (S7.1 32) ((0 : Int32).toNatClampNeg) ((0 : Int32).toNatClampNeg) ((4 : Int32).toNatClampNeg))).1 33) ((0 : Int32).toNatClampNeg) ((0 : Int32).toNatClampNeg) ((4 : Int32).toNatClampNeg))).1 10) ((xf (xf S7 32 (va_cpy (S7.1 8) (S7.1 32) ((0 : Int32).toNatClampNeg) ((0 : Int32).toNatClampNeg) ((4 : Int32).toNatClampNeg))) 33 (va_cpy ((xf S7 32 (va_cpy (S7.1 8) (S7.1 32) ((0 : Int32).toNatClampNeg) ((0 : Int32).toNatClampNeg) ((4 : Int32).toNatClampNeg))).1 9) ((xf S7 32 (va_cpy (S7.1 8) (S7.1 32) ((0 : Int32).toNatClampNeg) ((0 : Int32).toNatClampNeg) ((4 : Int32).toNatClampNeg))).1 33) ((0 : Int32).toNatClampNeg) ((0 : Int32).toNatClampNeg) ((4 : Int32).toNatClampNeg))).1 34) ((0 : Int32).toNatClampNeg) ((0 : Int32).toNatClampNeg) ((4 : Int32).toNatClampNeg))).1 14) ((xf (xf (xf S7 32 (va_cpy (S7.1 8) (S7.1 32) ((0 : Int32).toNatClampNeg) ((0 : Int32).toNatClampNeg) ((4 : Int32).toNatClampNeg))) 33 (va_cpy ((xf S7 32 (va_cpy (S7.1 8) (S7.1 32) ((0 : Int32).toNatClampNeg) ((0 : Int32).toNatClampNeg) ((4 : Int32).toNatClampNeg))).1 9) ((xf S7 32 (va_cpy (S7.1 8) (S7.1 32) ((0 : Int32).toNatClampNeg) ((0 : Int32).toNatClampNeg) ((4 : Int32).toNatClampNeg))).1 33) ((0 : Int32).toNatClampNeg) ((0 : Int32).toNatClampNeg) ((4 : Int32).toNatClampNeg))) 34 (va_cpy ((xf (xf S7 32 (va_cpy (S7.1 8) (S7.1 32) ((0 : Int32).toNatClampNeg) ((0 : Int32).toNatClampNeg) ((4 : Int32).toNatClampNeg))) 33 (va_cpy ((xf S7 32 (va_cpy (S7.1 8) (S7.1 32) ((0 : Int32).toNatClampNeg) ((0 : Int32).toNatClampNeg) ((4 : Int32).toNatClampNeg))).1 9) ((xf S7 32 (va_cpy (S7.1 8) (S7.1 32) ((0 : Int32).toNatClampNeg) ((0 : Int32).toNatClampNeg) ((4 : Int32).toNatClampNeg))).1 33) ((0 : Int32).toNatClampNeg) ((0 : Int32).toNatClampNeg) ((4 : Int32).toNatClampNeg))).1 10) ((xf (xf S7 32 (va_cpy (S7.1 8) (S7.1 32) ((0 : Int32).toNatClampNeg) ((0 : Int32).toNatClampNeg) ((4 : Int32).toNatClampNeg))) 33 (va_cpy ((xf S7 32 (va_cpy (S7.1 8) (S7.1 32) ((0 : Int32).toNatClampNeg) ((0 : Int32).toNatClampNeg) ((4 : Int32).toNatClampNeg))).1 9) ((xf S7 32 (va_cpy (S7.1 8) (S7.1 32) ((0 : Int32).toNatClampNeg) ((0 : Int32).toNatClampNeg) ((4 : Int32).toNatClampNeg))).1 33) ((0 : Int32).toNatClampNeg) ((0 : Int32).toNatClampNeg) ((4 : Int32).toNatClampNeg))).1 34) ((0 : Int32).toNatClampNeg) ((0 : Int32).toNatClampNeg) ((4 : Int32).toNatClampNeg))).1 35) ((0 : Int32).toNatClampNeg) ((0 : Int32).toNatClampNeg) (((xf (xf (xf S7 32 (va_cpy (S7.1 8) (S7.1 32) ((0 : Int32).toNatClampNeg) ((0 : Int32).toNatClampNeg) ((4 : Int32).toNatClampNeg))) 33 (va_cpy ((xf S7 32 (va_cpy (S7.1 8) (S7.1 32) ((0 : Int32).toNatClampNeg) ((0 : Int32).toNatClampNeg) ((4 : Int32).toNatClampNeg))).1 9) ((xf S7 32 (va_cpy (S7.1 8) (S7.1 32) ((0 : Int32).toNatClampNeg) ((0 : Int32).toNatClampNeg) ((4 : Int32).toNatClampNeg))).1 33) ((0 : Int32).toNatClampNeg) ((0 : Int32).toNatClampNeg) ((4 : Int32).toNatClampNeg))) 34 (va_cpy ((xf (xf S7 32 (va_cpy (S7.1 8) (S7.1 32) ((0 : Int32).toNatClampNeg) ((0 : Int32).toNatClampNeg) ((4 : Int32).toNatClampNeg))) 33 (va_cpy ((xf S7 32 (va_cpy (S7.1 8) (S7.1 32) ((0 : Int32).toNatClampNeg) ((0 : Int32).toNatClampNeg) ((4 : Int32).toNatClampNeg))).1 9) ((xf S7 32 (va_cpy (S7.1 8) (S7.1 32) ((0 : Int32).toNatClampNeg) ((0 : Int32).toNatClampNeg) ((4 : Int32).toNatClampNeg))).1 33) ((0 : Int32).toNatClampNeg) ((0 : Int32).toNatClampNeg) ((4 : Int32).toNatClampNeg))).1 10) ((xf (xf S7 32 (va_cpy (S7.1 8) (S7.1 32) ((0 : Int32).toNatClampNeg) ((0 : Int32).toNatClampNeg) ((4 : Int32).toNatClampNeg))) 33 (va_cpy ((xf S7 32 (va_cpy (S7.1 8) (S7.1 32) ((0 : Int32).toNatClampNeg) ((0 : Int32).toNatClampNeg) ((4 : Int32).toNatClampNeg))).1 9) ((xf S7 32 (va_cpy (S7.1 8) (S7.1 32) ((0 : Int32).toNatClampNeg) ((0 : Int32).toNatClampNeg) ((4 : Int32).toNatClampNeg))).1 33) ((0 : Int32).toNatClampNeg) ((0 : Int32).toNatClampNeg) ((4 : Int32).toNatClampNeg))).1 34) ((0 : Int32).toNatClampNeg) ((0 : Int32).toNatClampNeg) ((4 : Int32).toNatClampNeg))).1 29 0).toNatClampNeg))).1 15) ((xf (xf (xf (xf S7 32 (va_cpy (S7.1 8) (S7.1 32) ((0 : Int32).toNatClampNeg) ((0 : Int32).toNatClampNeg) ((4 : Int32).toNatClampNeg))) 33 (va_cpy ((xf S7 32 (va_cpy (S7.1 8) (S7.1 32) ((0 : Int32).toNatClampNeg) ((0 : Int32).toNatClampNeg) ((4 : Int32).toNatClampNeg))).1 9) ((xf S7 32 (va_cpy (S7.1 8) (S7.1 32) ((0 : Int32).toNatClampNeg) ((0 : Int32).toNatClampNeg) ((4 : Int32).toNatClampNeg))).1 33) ((0 : Int32).toNatClampNeg) ((0 : Int32).toNatClampNeg) ((4 : Int32).toNatClampNeg))) 34 (va_cpy ((xf (xf S7 32 (va_cpy (S7.1 8) (S7.1 32) ((0 : Int32).toNatClampNeg) ((0 : Int32).toNatClampNeg) ((4 : Int32).toNatClampNeg))) 33 (va_cpy ((xf S7 32 (va_cpy (S7.1 8) (S7.1 32) ((0 : Int32).toNatClampNeg) ((0 : Int32).toNatClampNeg) ((4 : Int32).toNatClampNeg))).1 9) ((xf S7 32 (va_cpy (S7.1 8) (S7.1 32) ((0 : Int32).toNatClampNeg) ((0 : Int32).toNatClampNeg) ((4 : Int32).toNatClampNeg))).1 33) ((0 : Int32).toNatClampNeg) ((0 : Int32).toNatClampNeg) ((4 : Int32).toNatClampNeg))).1 10) ((xf (xf S7 32 (va_cpy (S7.1 8) (S7.1 32) ((0 : Int32).toNatClampNeg) ((0 : Int32).toNatClampNeg) ((4 : Int32).toNatClampNeg))) 33 (va_cpy ((xf S7 32 (va_cpy (S7.1 8) (S7.1 32) ((0 : Int32).toNatClampNeg) ((0 : Int32).toNatClampNeg) ((4 : Int32).toNatClampNeg))).1 9) ((xf S7 32 (va_cpy (S7.1 8) (S7.1 32) ((0 : Int32).toNatClampNeg) ((0 : Int32).toNatClampNeg) ((4 : Int32).toNatClampNeg))).1 33) ((0 : Int32).toNatClampNeg) ((0 : Int32).toNatClampNeg) ((4 : Int32).toNatClampNeg))).1 34) ((0 : Int32).toNatClampNeg) ((0 : Int32).toNatClampNeg) ((4 : Int32).toNatClampNeg))) 35 (va_cpy ((xf (xf (xf S7 32 (va_cpy (S7.1 8) (S7.1 32) ((0 : Int32).toNatClampNeg) ((0 : Int32).toNatClampNeg) ((4 : Int32).toNatClampNeg))) 33 (va_cpy ((xf S7 32 (va_cpy (S7.1 8) (S7.1 32) ((0 : Int32).toNatClampNeg) ((0 : Int32).toNatClampNeg) ((4 : Int32).toNatClampNeg))).1 9) ((xf S7 32 (va_cpy (S7.1 8) (S7.1 32) ((0 : Int32).toNatClampNeg) ((0 : Int32).toNatClampNeg) ((4 : Int32).toNatClampNeg))).1 33) ((0 : Int32).toNatClampNeg) ((0 : Int32).toNatClampNeg) ((4 : Int32).toNatClampNeg))) 34 (va_cpy ((xf (xf S7 32 (va_cpy (S7.1 8) (S7.1 32) ((0 : Int32).toNatClampNeg) ((0 : Int32).toNatClampNeg) ((4 : Int32).toNatClampNeg))) 33 (va_cpy ((xf S7 32 (va_cpy (S7.1 8) (S7.1 32) ((0 : Int32).toNatClampNeg) ((0 : Int32).toNatClampNeg) ((4 : Int32).toNatClampNeg))).1 9) ((xf S7 32 (va_cpy (S7.1 8) (S7.1 32) ((0 : Int32).toNatClampNeg) ((0 : Int32).toNatClampNeg) ((4 : Int32).toNatClampNeg))).1 33) ((0 : Int32).toNatClampNeg) ((0 : Int32).toNatClampNeg) ((4 : Int32).toNatClampNeg))).1 10) ((xf (xf S7 32 (va_cpy (S7.1 8) (S7.1 32) ((0 : Int32).toNatClampNeg) ((0 : Int32).toNatClampNeg) ((4 : Int32).toNatClampNeg))) 33 (va_cpy ((xf S7 32 (va_cpy (S7.1 8) (S7.1 32) ((0 : Int32).toNatClampNeg) ((0 : Int32).toNatClampNeg) ((4 : Int32).toNatClampNeg))).1 9) ((xf S7 32 (va_cpy (S7.1 8) (S7.1 32) ((0 : Int32).toNatClampNeg) ((0 : Int32).toNatClampNeg) ((4 : Int32).toNatClampNeg))).1 33) ((0 : Int32).toNatClampNeg) ((0 : Int32).toNatClampNeg) ((4 : Int32).toNatClampNeg))).1 34) ((0 : Int32).toNatClampNeg) ((0 : Int32).toNatClampNeg) ((4 : Int32).toNatClampNeg))).1 14) ((xf (xf (xf S7 32 (va_cpy (S7.1 8) (S7.1 32) ((0 : Int32).toNatClampNeg) ((0 : Int32).toNatClampNeg) ((4 : Int32).toNatClampNeg))) 33 (va_cpy ((xf S7 32 (va_cpy (S7.1 8) (S7.1 32) ((0 : Int32).toNatClampNeg) ((0 : Int32).toNatClampNeg) ((4 : Int32).toNatClampNeg))).1 9) ((xf S7 32 (va_cpy (S7.1 8) (S7.1 32) ((0 : Int32).toNatClampNeg) ((0 : Int32).toNatClampNeg) ((4 : Int32).toNatClampNeg))).1 33) ((0 : Int32).toNatClampNeg) ((0 : Int32).toNatClampNeg) ((4 : Int32).toNatClampNeg))) 34 (va_cpy ((xf (xf S7 32 (va_cpy (S7.1 8) (S7.1 32) ((0 : Int32).toNatClampNeg) ((0 : Int32).toNatClampNeg) ((4 : Int32).toNatClampNeg))) 33 (va_cpy ((xf S7 32 (va_cpy (S7.1 8) (S7.1 32) ((0 : Int32).toNatClampNeg) ((0 : Int32).toNatClampNeg) ((4 : Int32).toNatClampNeg))).1 9) ((xf S7 32 (va_cpy (S7.1 8) (S7.1 32) ((0 : Int32).toNatClampNeg) ((0 : Int32).toNatClampNeg) ((4 : Int32).toNatClampNeg))).1 33) ((0 : Int32).toNatClampNeg) ((0 : Int32).toNatClampNeg) ((4 : Int32).toNatClampNeg))).1 10) ((xf (xf S7 32 (va_cpy (S7.1 8) (S7.1 32) ((0 : Int32).toNatClampNeg) ((0 : Int32).toNatClampNeg) ((4 : Int32).toNatClampNeg))) 33 (va_cpy ((xf S7 32 (va_cpy (S7.1 8) (S7.1 32) ((0 : Int32).toNatClampNeg) ((0 : Int32).toNatClampNeg) ((4 : Int32).toNatClampNeg))).1 9) ((xf S7 32 (va_cpy (S7.1 8) (S7.1 32) ((0 : Int32).toNatClampNeg) ((0 : Int32).toNatClampNeg) ((4 : Int32).toNatClampNeg))).1 33) ((0 : Int32).toNatClampNeg) ((0 : Int32).toNatClampNeg) ((4 : Int32).toNatClampNeg))).1 34) ((0 : Int32).toNatClampNeg) ((0 : Int32).toNatClampNeg) ((4 : Int32).toNatClampNeg))).1 35) ((0 : Int32).toNatClampNeg) ((0 : Int32).toNatClampNeg) (((xf (xf (xf S7 32 (va_cpy (S7.1 8) (S7.1 32) ((0 : Int32).toNatClampNeg) ((0 : Int32).toNatClampNeg) ((4 : Int32).toNatClampNeg))) 33 (va_cpy ((xf S7 32 (va_cpy (S7.1 8) (S7.1 32) ((0 : Int32).toNatClampNeg) ((0 : Int32).toNatClampNeg) ((4 : Int32).toNatClampNeg))).1 9) ((xf S7 32 (va_cpy (S7.1 8) (S7.1 32) ((0 : Int32).toNatClampNeg) ((0 : Int32).toNatClampNeg) ((4 : Int32).toNatClampNeg))).1 33) ((0 : Int32).toNatClampNeg) ((0 : Int32).toNatClampNeg) ((4 : Int32).toNatClampNeg))) 34 (va_cpy ((xf (xf S7 32 (va_cpy (S7.1 8) (S7.1 32) ((0 : Int32).toNatClampNeg) ((0 : Int32).toNatClampNeg) ((4 : Int32).toNatClampNeg))) 33 (va_cpy ((xf S7 32 (va_cpy (S7.1 8) (S7.1 32) ((0 : Int32).toNatClampNeg) ((0 : Int32).toNatClampNeg) ((4 : Int32).toNatClampNeg))).1 9) ((xf S7 32 (va_cpy (S7.1 8) (S7.1 32) ((0 : Int32).toNatClampNeg) ((0 : Int32).toNatClampNeg) ((4 : Int32).toNatClampNeg))).1 33) ((0 : Int32).toNatClampNeg) ((0 : Int32).toNatClampNeg) ((4 : Int32).toNatClampNeg))).1 10) ((xf (xf S7 32 (va_cpy (S7.1 8) (S7.1 32) ((0 : Int32).toNatClampNeg) ((0 : Int32).toNatClampNeg) ((4 : Int32).toNatClampNeg))) 33 (va_cpy ((xf S7 32 (va_cpy (S7.1 8) (S7.1 32) ((0 : Int32).toNatClampNeg) ((0 : Int32).toNatClampNeg) ((4 : Int32).toNatClampNeg))).1 9) ((xf S7 32 (va_cpy (S7.1 8) (S7.1 32) ((0 : Int32).toNatClampNeg) ((0 : Int32).toNatClampNeg) ((4 : Int32).toNatClampNeg))).1 33) ((0 : Int32).toNatClampNeg) ((0 : Int32).toNatClampNeg) ((4 : Int32).toNatClampNeg))).1 34) ((0 : Int32).toNatClampNeg) ((0 : Int32).toNatClampNeg) ((4 : Int32).toNatClampNeg))).1 29 0).toNatClampNeg))).1 36) ((0 : Int32).toNatClampNeg) ((0 : Int32).toNatClampNeg) (((xf (xf (xf (xf S7 32 (va_cpy (S7.1 8) (S7.1 32) ((0 : Int32).toNatClampNeg) ((0 : Int32).toNatClampNeg) ((4 : Int32).toNatClampNeg))) 33 (va_cpy ((xf S7 32 (va_cpy (S7.1 8) (S7.1 32) ((0 : Int32).toNatClampNeg) ((0 : Int32).toNatClampNeg) ((4 : Int32).toNatClampNeg))).1 9) ((xf S7 32 (va_cpy (S7.1 8) (S7.1 32) ((0 : Int32).toNatClampNeg) ((0 : Int32).toNatClampNeg) ((4 : Int32).toNatClampNeg))).1 33) ((0 : Int32).toNatClampNeg) ((0 : Int32).toNatClampNeg) ((4 : Int32).toNatClampNeg))) 34 (va_cpy ((xf (xf S7 32 (va_cpy (S7.1 8) (S7.1 32) ((0 : Int32).toNatClampNeg) ((0 : Int32).toNatClampNeg) ((4 : Int32).toNatClampNeg))) 33 (va_cpy ((xf S7 32 (va_cpy (S7.1 8) (S7.1 32) ((0 : Int32).toNatClampNeg) ((0 : Int32).toNatClampNeg) ((4 : Int32).toNatClampNeg))).1 9) ((xf S7 32 (va_cpy (S7.1 8) (S7.1 32) ((0 : Int32).toNatClampNeg) ((0 : Int32).toNatClampNeg) ((4 : Int32).toNatClampNeg))).1 33) ((0 : Int32).toNatClampNeg) ((0 : Int32).toNatClampNeg) ((4 : Int32).toNatClampNeg))).1 10) ((xf (xf S7 32 (va_cpy (S7.1 8) (S7.1 32) ((0 : Int32).toNatClampNeg) ((0 : Int32).toNatClampNeg) ((4 : Int32).toNatClampNeg))) 33 (va_cpy ((xf S7 32 (va_cpy (S7.1 8) (S7.1 32) ((0 : Int32).toNatClampNeg) ((0 : Int32).toNatClampNeg) ((4 : Int32).toNatClampNeg))).1 9) ((xf S7 32 (va_cpy (S7.1 8) (S7.1 32) ((0 : Int32).toNatClampNeg) ((0 : Int32).toNatClampNeg) ((4 : Int32).toNatClampNeg))).1 33) ((0 : Int32).toNatClampNeg) ((0 : Int32).toNatClampNeg) ((4 : Int32).toNatClampNeg))).1 34) ((0 : Int32).toNatClampNeg) ((0 : Int32).toNatClampNeg) ((4 : Int32).toNatClampNeg))) 35 (va_cpy ((xf (xf (xf S7 32 (va_cpy (S7.1 8) (S7.1 32) ((0 : Int32).toNatClampNeg) ((0 : Int32).toNatClampNeg) ((4 : Int32).toNatClampNeg))) 33 (va_cpy ((xf S7 32 (va_cpy (S7.1 8) (S7.1 32) ((0 : Int32).toNatClampNeg) ((0 : Int32).toNatClampNeg) ((4 : Int32).toNatClampNeg))).1 9) ((xf S7 32 (va_cpy (S7.1 8) (S7.1 32) ((0 : Int32).toNatClampNeg) ((0 : Int32).toNatClampNeg) ((4 : Int32).toNatClampNeg))).1 33) ((0 : Int32).toNatClampNeg) ((0 : Int32).toNatClampNeg) ((4 : Int32).toNatClampNeg))) 34 (va_cpy ((xf (xf S7 32 (va_cpy (S7.1 8) (S7.1 32) ((0 : Int32).toNatClampNeg) ((0 : Int32).toNatClampNeg) ((4 : Int32).toNatClampNeg))) 33 (va_cpy ((xf S7 32 (va_cpy (S7.1 8) (S7.1 32) ((0 : Int32).toNatClampNeg) ((0 : Int32).toNatClampNeg) ((4 : Int32).toNatClampNeg))).1 9) ((xf S7 32 (va_cpy (S7.1 8) (S7.1 32) ((0 : Int32).toNatClampNeg) ((0 : Int32).toNatClampNeg) ((4 : Int32).toNatClampNeg))).1 33) ((0 : Int32).toNatClampNeg) ((0 : Int32).toNatClampNeg) ((4 : Int32).toNatClampNeg))).1 10) ((xf (xf S7 32 (va_cpy (S7.1 8) (S7.1 32) ((0 : Int32).toNatClampNeg) ((0 : Int32).toNatClampNeg) ((4 : Int32).toNatClampNeg))) 33 (va_cpy ((xf S7 32 (va_cpy (S7.1 8) (S7.1 32) ((0 : Int32).toNatClampNeg) ((0 : Int32).toNatClampNeg) ((4 : Int32).toNatClampNeg))).1 9) ((xf S7 32 (va_cpy (S7.1 8) (S7.1 32) ((0 : Int32).toNatClampNeg) ((0 : Int32).toNatClampNeg) ((4 : Int32).toNatClampNeg))).1 33) ((0 : Int32).toNatClampNeg) ((0 : Int32).toNatClampNeg) ((4 : Int32).toNatClampNeg))).1 34) ((0 : Int32).toNatClampNeg) ((0 : Int32).toNatClampNeg) ((4 : Int32).toNatClampNeg))).1 14) ((xf (xf (xf S7 32 (va_cpy (S7.1 8) (S7.1 32) ((0 : Int32).toNatClampNeg) ((0 : Int32).toNatClampNeg) ((4 : Int32).toNatClampNeg))) 33 (va_cpy ((xf S7 32 (va_cpy (S7.1 8) (S7.1 32) ((0 : Int32).toNatClampNeg) ((0 : Int32).toNatClampNeg) ((4 : Int32).toNatClampNeg))).1 9) ((xf S7 32 (va_cpy (S7.1 8) (S7.1 32) ((0 : Int32).toNatClampNeg) ((0 : Int32).toNatClampNeg) ((4 : Int32).toNatClampNeg))).1 33) ((0 : Int32).toNatClampNeg) ((0 : Int32).toNatClampNeg) ((4 : Int32).toNatClampNeg))) 34 (va_cpy ((xf (xf S7 32 (va_cpy (S7.1 8) (S7.1 32) ((0 : Int32).toNatClampNeg) ((0 : Int32).toNatClampNeg) ((4 : Int32).toNatClampNeg))) 33 (va_cpy ((xf S7 32 (va_cpy (S7.1 8) (S7.1 32) ((0 : Int32).toNatClampNeg) ((0 : Int32).toNatClampNeg) ((4 : Int32).toNatClampNeg))).1 9) ((xf S7 32 (va_cpy (S7.1 8) (S7.1 32) ((0 : Int32).toNatClampNeg) ((0 : Int32).toNatClampNeg) ((4 : Int32).toNatClampNeg))).1 33) ((0 : Int32).toNatClampNeg) ((0 : Int32).toNatClampNeg) ((4 : Int32).toNatClampNeg))).1 10) ((xf (xf S7 32 (va_cpy (S7.1 8) (S7.1 32) ((0 : Int32).toNatClampNeg) ((0 : Int32).toNatClampNeg) ((4 : Int32).toNatClampNeg))) 33 (va_cpy ((xf S7 32 (va_cpy (S7.1 8) (S7.1 32) ((0 : Int32).toNatClampNeg) ((0 : Int32).toNatClampNeg) ((4 : Int32).toNatClampNeg))).1 9) ((xf S7 32 (va_cpy (S7.1 8) (S7.1 32) ((0 : Int32).toNatClampNeg) ((0 : Int32).toNatClampNeg) ((4 : Int32).toNatClampNeg))).1 33) ((0 : Int32).toNatClampNeg) ((0 : Int32).toNatClampNeg) ((4 : Int32).toNatClampNeg))).1 34) ((0 : Int32).toNatClampNeg) ((0 : Int32).toNatClampNeg) ((4 : Int32).toNatClampNeg))).1 35) ((0 : Int32).toNatClampNeg) ((0 : Int32).toNatClampNeg) (((xf (xf (xf S7 32 (va_cpy (S7.1 8) (S7.1 32) ((0 : Int32).toNatClampNeg) ((0 : Int32).toNatClampNeg) ((4 : Int32).toNatClampNeg))) 33 (va_cpy ((xf S7 32 (va_cpy (S7.1 8) (S7.1 32) ((0 : Int32).toNatClampNeg) ((0 : Int32).toNatClampNeg) ((4 : Int32).toNatClampNeg))).1 9) ((xf S7 32 (va_cpy (S7.1 8) (S7.1 32) ((0 : Int32).toNatClampNeg) ((0 : Int32).toNatClampNeg) ((4 : Int32).toNatClampNeg))).1 33) ((0 : Int32).toNatClampNeg) ((0 : Int32).toNatClampNeg) ((4 : Int32).toNatClampNeg))) 34 (va_cpy ((xf (xf S7 32 (va_cpy (S7.1 8) (S7.1 32) ((0 : Int32).toNatClampNeg) ((0 : Int32).toNatClampNeg) ((4 : Int32).toNatClampNeg))) 33 (va_cpy ((xf S7 32 (va_cpy (S7.1 8) (S7.1 32) ((0 : Int32).toNatClampNeg) ((0 : Int32).toNatClampNeg) ((4 : Int32).toNatClampNeg))).1 9) ((xf S7 32 (va_cpy (S7.1 8) (S7.1 32) ((0 : Int32).toNatClampNeg) ((0 : Int32).toNatClampNeg) ((4 : Int32).toNatClampNeg))).1 33) ((0 : Int32).toNatClampNeg) ((0 : Int32).toNatClampNeg) ((4 : Int32).toNatClampNeg))).1 10) ((xf (xf S7 32 (va_cpy (S7.1 8) (S7.1 32) ((0 : Int32).toNatClampNeg) ((0 : Int32).toNatClampNeg) ((4 : Int32).toNatClampNeg))) 33 (va_cpy ((xf S7 32 (va_cpy (S7.1 8) (S7.1 32) ((0 : Int32).toNatClampNeg) ((0 : Int32).toNatClampNeg) ((4 : Int32).toNatClampNeg))).1 9) ((xf S7 32 (va_cpy (S7.1 8) (S7.1 32) ((0 : Int32).toNatClampNeg) ((0 : Int32).toNatClampNeg) ((4 : Int32).toNatClampNeg))).1 33) ((0 : Int32).toNatClampNeg) ((0 : Int32).toNatClampNeg) ((4 : Int32).toNatClampNeg))).1 34) ((0 : Int32).toNatClampNeg) ((0 : Int32).toNatClampNeg) ((4 : Int32).toNatClampNeg))).1 29 0).toNatClampNeg))).1 29 0).toNatClampNeg))) hc hw hR (by decide) (hml.trans hl.1.symm) (mem_g 1088 (by decide +kernel) rfl) (mem_g 463 (by decide +kernel) rfl) (mem_g 462 (by decide +kernel) rfl) (mem_g 88 (by decide +kernel) rfl) (Nat.le_of_ble_eq_true rfl) ((xW_A (k := 18) (by decide)).trans rfl) ((xW_A (k := 23) (by decide)).trans rfl) (xW_setA (k := 23) (by decide) rfl (xf_R (k := 36) (by decide)) (xf_T (k := 36) (by decide))) hk12 dX2_keep_161 (fun H locs hw => ?_)
  obtain rfl := Option.some.inj hf
  exact hQ _ _ _ _ dX2_keep_164 hw
def xf_R_readNumber_L2 (N : Nat) : Nat → xS → Int32 → Option (Int32 × xS)
  | 0, _, _ => none
  | n + 1, S2, v1 => (if (S2.1 40 0) ≤ (S2.1 41 0) then some (v1, S2) else (if (S2.1 39 0) < 0 then none else (if ok (S2.1 41 0) 160 then (if (xf_R_isDigit (S2.1 3 (S2.1 41 0).toNatClampNeg)) = true then xf_R_readNumber_L2 N n (xs S2 41 0 ((S2.1 41 0) + 1)) ((if 4 ≤ ((S2.1 41 0) - (S2.1 42 0)) then v1 else ((10 * v1) + (S2.1 3 (S2.1 41 0).toNatClampNeg)) - 48) : Int32) else some (v1, S2)) else none)))
set_option maxRecDepth 100000 in
theorem wx_R_readNumber_L2 {p : Program} {l : Launch} {e : Env} {R : Room} {s : State} {m : MethodId} {args : Array Value} {below : List Frame} {meth : Method} {c : Code} {Q : State → Prop} {g : xG} {A : Nat → Prop} {H0 : Heap} (hc : qC RX7 cX7_readNumber p s m args c) (hR : qRoom R 3) (hml : c.maxLocals = 2) (N : Nat) : ∀ (n : Nat) (S2 : xS) (v1 : Int32) (X : Int32 × xS) (H : Heap) (locs : List Loc) (ls : Array Slot), xf_R_readNumber_L2 N n S2 v1 = some X → xI g A H0 s S2 H locs → lv_has ls 2 [(0, .ref (xr g 3)), (1, .int v1)] → (∀ (H : Heap) (locs : List Loc) (ls : Array Slot), xI g A H0 s X.2 H locs → lv_has ls 2 [(0, .ref (xr g 3)), (1, .int X.1)] → W p l e R s m args below meth c H locs 0 0 Q (F0 m 76 ls [])) → W p l e R s m args below meth c H locs 0 0 Q (F0 m 2 ls []) := by
  have hx := hc.1
  have hb := hc.2.1
  intro n
  induction n with
  | zero => intro _ _ X H locs ls hf; exact nomatch (show none = some X from hf)
  | succ n ih =>
    intro S2 v1 X H locs ls hf hw hl kx
    rw [xf_R_readNumber_L2] at hf
    refine lv_aload_n hx hb dX7_readNumber_2 rfl (lv_at hl 0 rfl) ?_
    refine x_g_reader_next hc hw fl_7_22 dX7_readNumber_3 ?_
    refine lv_aload_n hx hb dX7_readNumber_6 rfl (lv_at hl 0 rfl) ?_
    refine x_g_reader_size hc hw fl_7_19 dX7_readNumber_7 ?_
    refine lv_icmp_ge (tgt := 76) hx hb dX7_readNumber_10 (by decide) (fun cn9 => ?_) (fun cn9 => ?_)
    · have hf := (if_pos cn9).symm.trans hf
      obtain rfl := Option.some.inj hf
      exact kx _ _ _ hw (lv_sub hl [0, 1] rfl)
    · have hf := (if_neg cn9).symm.trans hf
      refine lv_aload_n hx hb dX7_readNumber_13 rfl (lv_at hl 0 rfl) ?_
      refine x_g_reader_tape hc hw fl_7_15 dX7_readNumber_14 ?_
      refine x_splitb (fun cn3 => ?_) (fun cn3 => ?_)
      · have hf := (if_pos cn3).symm.trans hf
        refine lv_aload_n hx hb dX7_readNumber_17 rfl (lv_at hl 0 rfl) ?_
        refine x_g_reader_next hc hw fl_7_22 dX7_readNumber_18 ?_
        exact nomatch hf
      · have hf := (if_neg cn3).symm.trans hf
        refine lv_aload_n hx hb dX7_readNumber_17 rfl (lv_at hl 0 rfl) ?_
        refine x_g_reader_next hc hw fl_7_22 dX7_readNumber_18 ?_
        obtain ⟨hi4, hf⟩ := gd_some hf
        refine x_l_this_tape hc hw (ok_in hi4) dX7_readNumber_21 ?_
        refine x_csi (As := [.int (S2.1 3 (S2.1 41 0).toNatClampNeg)]) (rest := []) hc hw hR (hml.trans hl.1.symm) (cx_R_isDigit l S2 (S2.1 3 (S2.1 41 0).toNatClampNeg) _ rfl) xq_7_R_isDigit (by decide) rfl rfl rfl (Nat.le_of_ble_eq_true rfl) dX7_readNumber_22 (fun H locs hw => ?_) ⟨Nat.zero_le _, Nat.zero_le _⟩
        refine lv_if_eqb (tgt := 76) hx hb dX7_readNumber_25 (by decide) (fun cn10 => ?_) (fun cn10 => ?_)
        · have hf := (if_neg cn10).symm.trans hf
          obtain rfl := Option.some.inj hf
          exact kx _ _ _ hw (lv_sub hl [0, 1] rfl)
        · have hf := (if_pos cn10).symm.trans hf
          refine lv_aload_n hx hb dX7_readNumber_28 rfl (lv_at hl 0 rfl) ?_
          refine x_g_reader_next hc hw fl_7_22 dX7_readNumber_29 ?_
          refine lv_aload_n hx hb dX7_readNumber_32 rfl (lv_at hl 0 rfl) ?_
          refine x_g_reader_start hc hw fl_7_25 dX7_readNumber_33 ?_
          refine lv_isub hx hb dX7_readNumber_36 ?_
          refine lv_iconst (v := 4) hx hb dX7_readNumber_37 (by decide) ?_
          obtain ⟨v5, hv5⟩ : ∃ y : Int32, y = (if 4 ≤ ((S2.1 41 0) - (S2.1 42 0)) then v1 else ((10 * v1) + (S2.1 3 (S2.1 41 0).toNatClampNeg)) - 48) := ⟨_, rfl⟩
          try rw [← hv5] at hf
          have kJ11 : ∀ v5x : Int32, v5 = v5x → ∀ (H : Heap) (locs : List Loc) (ls : Array Slot), xI g A H0 s S2 H locs → lv_has ls 2 [(0, .ref (xr g 3))] → W p l e R s m args below meth c H locs 0 0 Q (F0 m 62 ls [.int v5x]) := by
            intro v5x hxv5 H locs ls hw hl
            subst hxv5
            refine lv_istore_n (lv' := [(1, .int v5), (0, .ref (xr g 3))]) hx hb dX7_readNumber_62 rfl hl (by decide) rfl (fun ls hl => ?_)
            refine lv_aload_n hx hb dX7_readNumber_63 rfl (lv_at hl 1 rfl) ?_
            refine lv_dup hx hb dX7_readNumber_64 rfl ?_
            refine x_g_reader_next hc hw fl_7_22 dX7_readNumber_65 ?_
            refine lv_iconst (v := 1) hx hb dX7_readNumber_68 (by decide) ?_
            refine lv_iadd hx hb dX7_readNumber_69 ?_
            refine x_p_reader_next hc hw fl_7_22 dX7_readNumber_70 (fun H locs hw => ?_)
            refine lv_goto (tgt := 2) hx hb dX7_readNumber_73 (by decide) ?_
            exact ih _ _ X _ _ _ hf hw (lv_sub hl [1, 0] rfl) kx
          refine lv_icmp_ge (tgt := 61) hx hb dX7_readNumber_38 (by decide) (fun cn12 => ?_) (fun cn12 => ?_)
          · refine lv_iload_n hx hb dX7_readNumber_61 rfl (lv_at hl 1 rfl) ?_
            have ev5 : v5 = v1 := by rw [hv5]; simp only [if_pos cn12]
            exact kJ11 _ ev5 _ _ _ hw (lv_sub hl [0] rfl)
          · refine lv_bipush (v := 10) hx hb dX7_readNumber_41 (by decide) ?_
            refine lv_iload_n hx hb dX7_readNumber_43 rfl (lv_at hl 1 rfl) ?_
            refine lv_imul hx hb dX7_readNumber_44 ?_
            refine lv_aload_n hx hb dX7_readNumber_45 rfl (lv_at hl 0 rfl) ?_
            refine x_g_reader_tape hc hw fl_7_15 dX7_readNumber_46 ?_
            rw [xbv_pos cn3]
            refine lv_aload_n hx hb dX7_readNumber_49 rfl (lv_at hl 0 rfl) ?_
            refine x_g_reader_next hc hw fl_7_22 dX7_readNumber_50 ?_
            refine x_l_this_tape hc hw (ok_in hi4) dX7_readNumber_53 ?_
            refine lv_iadd hx hb dX7_readNumber_54 ?_
            refine lv_bipush (v := 48) hx hb dX7_readNumber_55 (by decide) ?_
            refine lv_isub hx hb dX7_readNumber_57 ?_
            refine lv_goto (tgt := 62) hx hb dX7_readNumber_58 (by decide) ?_
            have ev5 : v5 = (((10 * v1) + (S2.1 3 (S2.1 41 0).toNatClampNeg)) - 48) := by rw [hv5]; simp only [if_neg cn12]
            exact kJ11 _ ev5 _ _ _ hw (lv_sub hl [0] rfl)
def xf_R_readNumber (N : Nat) (S : xS) : Option (xS) := (bd2 (xf_R_readNumber_L2 N N S 0) fun v6 S7 => some (xs (xs S7 43 0 ((if 4 < ((S7.1 41 0) - (S7.1 42 0)) then 10 else 1) : Int32)) 44 0 v6))
set_option maxRecDepth 100000 in
theorem cx_R_readNumber (l : Launch) (N : Nat) (S : xS) (S1 : xS) (hf : xf_R_readNumber N S = some S1) : xMv l yX7_readNumber cX7_readNumber 2 3 (fun g => [.ref (xr g 3)]) S S1 := by
  refine xMv_of (own := RX7) (by decide) rfl (fun g => Nat.le_of_ble_eq_true rfl) ?_
  intro p e R s m args below meth c Q g A H0 H locs ls hc hR hml hw hl hQ
  have hl : lv_has ls 2 [(0, .ref (xr g 3))] := hl
  have hx := hc.1
  have hb := hc.2.1
  unfold xf_R_readNumber at hf
  refine lv_iconst (v := 0) hx hb dX7_readNumber_0 (by decide) ?_
  refine lv_istore_n (lv' := [(1, .int 0), (0, .ref (xr g 3))]) hx hb dX7_readNumber_1 rfl hl (by decide) rfl (fun ls hl => ?_)
  obtain ⟨v6, S7, hL, hf⟩ := bd2_some hf
  refine wx_R_readNumber_L2 hc hR hml N N _ _ _ _ _ _ hL hw (lv_sub hl [1, 0] rfl) (fun H locs ls hw hl => ?_)
  refine lv_aload_n hx hb dX7_readNumber_76 rfl (lv_at hl 0 rfl) ?_
  refine lv_aload_n hx hb dX7_readNumber_77 rfl (lv_at hl 0 rfl) ?_
  refine x_g_reader_next hc hw fl_7_22 dX7_readNumber_78 ?_
  refine lv_aload_n hx hb dX7_readNumber_81 rfl (lv_at hl 0 rfl) ?_
  refine x_g_reader_start hc hw fl_7_25 dX7_readNumber_82 ?_
  refine lv_isub hx hb dX7_readNumber_85 ?_
  refine lv_iconst (v := 4) hx hb dX7_readNumber_86 (by decide) ?_
  obtain ⟨v8, hv8⟩ : ∃ y : Int32, y = (if 4 < ((S7.1 41 0) - (S7.1 42 0)) then 10 else 1) := ⟨_, rfl⟩
  try rw [← hv8] at hf
  have kJ15 : ∀ v8x : Int32, v8 = v8x → ∀ (H : Heap) (locs : List Loc) (ls : Array Slot), xI g A H0 s S7 H locs → lv_has ls 2 [(0, .ref (xr g 3)), (1, .int v6)] → W p l e R s m args below meth c H locs 0 0 Q (F0 m 96 ls [.int v8x, .ref (xr g 3)]) := by
    intro v8x hxv8 H locs ls hw hl
    subst hxv8
    refine x_p_reader_token hc hw fl_7_28 dX7_readNumber_96 (fun H locs hw => ?_)
    refine lv_aload_n hx hb dX7_readNumber_99 rfl (lv_at hl 0 rfl) ?_
    refine lv_iload_n hx hb dX7_readNumber_100 rfl (lv_at hl 1 rfl) ?_
    refine x_p_reader_operand hc hw fl_7_31 dX7_readNumber_101 (fun H locs hw => ?_)
    obtain rfl := Option.some.inj hf
    exact hQ _ _ _ _ dX7_readNumber_104 hw
  refine lv_icmp_gt (tgt := 94) hx hb dX7_readNumber_87 (by decide) (fun cn16 => ?_) (fun cn16 => ?_)
  · refine lv_bipush (v := 10) hx hb dX7_readNumber_94 (by decide) ?_
    have ev8 : v8 = (10 : Int32) := by rw [hv8]; simp only [if_pos cn16]
    exact kJ15 _ ev8 _ _ _ hw (lv_sub hl [0, 1] rfl)
  · refine lv_iconst (v := 1) hx hb dX7_readNumber_90 (by decide) ?_
    refine lv_goto (tgt := 96) hx hb dX7_readNumber_91 (by decide) ?_
    have ev8 : v8 = (1 : Int32) := by rw [hv8]; simp only [if_neg cn16]
    exact kJ15 _ ev8 _ _ _ hw (lv_sub hl [0, 1] rfl)
def xf_T_run_L20 (N : Nat) (c4 : Int32) (c5 : Int32) : Nat → xS → Int32 → Int32 → Option (xS)
  | 0, _, _, _ => none
  | n + 1, S8, v6, v7 => (if c4.toNatClampNeg < S8.2.2.2 then (if ok c5 3 then (if (S8.1 (82 + 4 * c4.toNatClampNeg) c5.toNatClampNeg) ≤ v7 then some S8 else (if ok v7 (S8.1 76 c4.toNatClampNeg).toNatClampNeg then (if ok v7 (S8.1 76 c4.toNatClampNeg).toNatClampNeg then (if ((S8.1 (81 + 4 * c4.toNatClampNeg) v7.toNatClampNeg) >>> (14 &&& 31)) = 1 then (if 32 ≤ v6 then xf_T_run_L20 N c4 c5 n S8 v6 (v7 + 1) else (bd1 (if ((S8.1 (81 + 4 * c4.toNatClampNeg) v7.toNatClampNeg) >>> (14 &&& 31)) = 1 then some ((S8.1 (81 + 4 * c4.toNatClampNeg) v7.toNatClampNeg) &&& 16383) else (if ok ((S8.1 (81 + 4 * c4.toNatClampNeg) v7.toNatClampNeg) &&& 16383) 6 then some (S8.1 25 ((S8.1 (81 + 4 * c4.toNatClampNeg) v7.toNatClampNeg) &&& 16383).toNatClampNeg) else none)) fun v14 => (if ok v6 32 then xf_T_run_L20 N c4 c5 n (xs S8 (83 + 4 * c4.toNatClampNeg) v6.toNatClampNeg v14) (v6 + 1) (v7 + 1) else none))) else (if ((S8.1 (81 + 4 * c4.toNatClampNeg) v7.toNatClampNeg) >>> (14 &&& 31)) = 2 then (if 32 ≤ v6 then xf_T_run_L20 N c4 c5 n S8 v6 (v7 + 1) else (bd1 (if ((S8.1 (81 + 4 * c4.toNatClampNeg) v7.toNatClampNeg) >>> (14 &&& 31)) = 1 then some ((S8.1 (81 + 4 * c4.toNatClampNeg) v7.toNatClampNeg) &&& 16383) else (if ok ((S8.1 (81 + 4 * c4.toNatClampNeg) v7.toNatClampNeg) &&& 16383) 6 then some (S8.1 25 ((S8.1 (81 + 4 * c4.toNatClampNeg) v7.toNatClampNeg) &&& 16383).toNatClampNeg) else none)) fun v23 => (if ok v6 32 then xf_T_run_L20 N c4 c5 n (xs S8 (83 + 4 * c4.toNatClampNeg) v6.toNatClampNeg v23) (v6 + 1) (v7 + 1) else none))) else (if ((S8.1 (81 + 4 * c4.toNatClampNeg) v7.toNatClampNeg) >>> (14 &&& 31)) = 5 then (if v6 ≤ 0 then xf_T_run_L20 N c4 c5 n S8 v6 (v7 + 1) else (if ok (v6 - 1) 32 then xf_T_run_L20 N c4 c5 n (xs S8 (83 + 4 * c4.toNatClampNeg) (v6 - 1).toNatClampNeg ((if ((S8.1 (81 + 4 * c4.toNatClampNeg) v7.toNatClampNeg) >>> (14 &&& 31)) = 6 then -(S8.1 (83 + 4 * c4.toNatClampNeg) (v6 - 1).toNatClampNeg) else (if (S8.1 (83 + 4 * c4.toNatClampNeg) (v6 - 1).toNatClampNeg) = 0 then 1 else 0)) : Int32)) v6 (v7 + 1) else none)) else (if ((S8.1 (81 + 4 * c4.toNatClampNeg) v7.toNatClampNeg) >>> (14 &&& 31)) = 6 then (if v6 ≤ 0 then xf_T_run_L20 N c4 c5 n S8 v6 (v7 + 1) else (if ok (v6 - 1) 32 then xf_T_run_L20 N c4 c5 n (xs S8 (83 + 4 * c4.toNatClampNeg) (v6 - 1).toNatClampNeg ((if ((S8.1 (81 + 4 * c4.toNatClampNeg) v7.toNatClampNeg) >>> (14 &&& 31)) = 6 then -(S8.1 (83 + 4 * c4.toNatClampNeg) (v6 - 1).toNatClampNeg) else (if (S8.1 (83 + 4 * c4.toNatClampNeg) (v6 - 1).toNatClampNeg) = 0 then 1 else 0)) : Int32)) v6 (v7 + 1) else none)) else (if v6 ≤ 1 then xf_T_run_L20 N c4 c5 n S8 v6 (v7 + 1) else (if ok ((v6 + (-1)) - 1) 32 then (if ok (v6 + (-1)) 32 then xf_T_run_L20 N c4 c5 n (xs S8 (83 + 4 * c4.toNatClampNeg) ((v6 + (-1)) - 1).toNatClampNeg (xf_T_joined ((S8.1 (81 + 4 * c4.toNatClampNeg) v7.toNatClampNeg) >>> (14 &&& 31)) (S8.1 (83 + 4 * c4.toNatClampNeg) ((v6 + (-1)) - 1).toNatClampNeg) (S8.1 (83 + 4 * c4.toNatClampNeg) (v6 + (-1)).toNatClampNeg))) (v6 + (-1)) (v7 + 1) else none) else none)))))) else none) else none)) else none) else none)
set_option maxRecDepth 100000 in
theorem wx_T_run_L20 {p : Program} {l : Launch} {e : Env} {R : Room} {s : State} {m : MethodId} {args : Array Value} {below : List Frame} {meth : Method} {c : Code} {Q : State → Prop} {g : xG} {A : Nat → Prop} {H0 : Heap} (hc : qC RX10 cX10_run p s m args c) (hR : qRoom R 3) (hml : c.maxLocals = 8) (N : Nat) (c4 : Int32) (c5 : Int32) : ∀ (n : Nat) (S8 : xS) (v6 : Int32) (v7 : Int32) (X : xS) (H : Heap) (locs : List Loc) (ls : Array Slot), xf_T_run_L20 N c4 c5 n S8 v6 v7 = some X → xI g A H0 s S8 H locs → lv_has ls 8 [(0, .ref (xr g (200 + 4 * c4.toNatClampNeg))), (1, .int c5), (2, .ref (xr g 14)), (3, .int v6), (4, .int v7)] → (∀ (H : Heap) (locs : List Loc) (ls : Array Slot), xI g A H0 s X H locs → lv_has ls 8 [(0, .ref (xr g (200 + 4 * c4.toNatClampNeg)))] → W p l e R s m args below meth c H locs 0 0 Q (F0 m 203 ls [])) → W p l e R s m args below meth c H locs 0 0 Q (F0 m 20 ls []) := by
  have hx := hc.1
  have hb := hc.2.1
  intro n
  induction n with
  | zero => intro _ _ _ X H locs ls hf; exact nomatch (show none = some X from hf)
  | succ n ih =>
    intro S8 v6 v7 X H locs ls hf hw hl kx
    rw [xf_T_run_L20] at hf
    refine lv_iload hx hb dX10_run_20 (lv_at hl 4 rfl) ?_
    refine lv_aload_n hx hb dX10_run_22 rfl (lv_at hl 0 rfl) ?_
    obtain ⟨hr9, hf⟩ := gd_some hf
    refine x_tg_ends hc hw hr9 fl_10_16 dX10_run_23 ?_
    refine lv_iload_n hx hb dX10_run_26 rfl (lv_at hl 1 rfl) ?_
    obtain ⟨hi10, hf⟩ := gd_some hf
    refine x_l_ends hc hw hr9 (ok_in hi10) dX10_run_27 ?_
    refine lv_icmp_ge (tgt := 203) hx hb dX10_run_28 (by decide) (fun cn27 => ?_) (fun cn27 => ?_)
    · have hf := (if_pos cn27).symm.trans hf
      obtain rfl := Option.some.inj hf
      exact kx _ _ _ hw (lv_sub hl [0] rfl)
    · have hf := (if_neg cn27).symm.trans hf
      refine lv_aload_n hx hb dX10_run_31 rfl (lv_at hl 0 rfl) ?_
      refine x_tg_steps hc hw hr9 fl_10_13 dX10_run_32 ?_
      refine lv_iload hx hb dX10_run_35 (lv_at hl 4 rfl) ?_
      obtain ⟨hi11, hf⟩ := gd_some hf
      refine x_l_steps hc hw hr9 (ok_in hi11) dX10_run_37 ?_
      refine lv_bipush (v := 14) hx hb dX10_run_38 (by decide) ?_
      refine lv_ishr hx hb dX10_run_40 ?_
      refine lv_istore (lv' := [(5, .int ((S8.1 (81 + 4 * c4.toNatClampNeg) v7.toNatClampNeg) >>> (14 &&& 31))), (0, .ref (xr g (200 + 4 * c4.toNatClampNeg))), (1, .int c5), (2, .ref (xr g 14)), (3, .int v6), (4, .int v7)]) hx hb dX10_run_41 hl (by decide) rfl (fun ls hl => ?_)
      refine lv_aload_n hx hb dX10_run_43 rfl (lv_at hl 1 rfl) ?_
      refine x_tg_steps hc hw hr9 fl_10_13 dX10_run_44 ?_
      refine lv_iload hx hb dX10_run_47 (lv_at hl 5 rfl) ?_
      obtain ⟨hi12, hf⟩ := gd_some hf
      refine x_l_steps hc hw hr9 (ok_in hi12) dX10_run_49 ?_
      refine lv_sipush (v := 16383) hx hb dX10_run_50 (by decide) ?_
      refine lv_iand hx hb dX10_run_53 ?_
      refine lv_istore (lv' := [(6, .int ((S8.1 (81 + 4 * c4.toNatClampNeg) v7.toNatClampNeg) &&& 16383)), (5, .int ((S8.1 (81 + 4 * c4.toNatClampNeg) v7.toNatClampNeg) >>> (14 &&& 31))), (0, .ref (xr g (200 + 4 * c4.toNatClampNeg))), (1, .int c5), (2, .ref (xr g 14)), (3, .int v6), (4, .int v7)]) hx hb dX10_run_54 hl (by decide) rfl (fun ls hl => ?_)
      refine lv_iload hx hb dX10_run_56 (lv_at hl 1 rfl) ?_
      refine lv_iconst (v := 1) hx hb dX10_run_58 (by decide) ?_
      refine lv_icmp_eq (tgt := 68) hx hb dX10_run_59 (by decide) (fun cn28 => ?_) (fun cn28 => ?_)
      · have hf := (if_pos cn28).symm.trans hf
        refine lv_iload_n hx hb dX10_run_68 rfl (lv_at hl 5 rfl) ?_
        refine lv_bipush (v := 32) hx hb dX10_run_69 (by decide) ?_
        refine lv_icmp_ge (tgt := 197) hx hb dX10_run_71 (by decide) (fun cn29 => ?_) (fun cn29 => ?_)
        · have hf := (if_pos cn29).symm.trans hf
          refine lv_iinc (lv' := [(4, .int (v7 + 1)), (6, .int ((S8.1 (81 + 4 * c4.toNatClampNeg) v7.toNatClampNeg) &&& 16383)), (5, .int ((S8.1 (81 + 4 * c4.toNatClampNeg) v7.toNatClampNeg) >>> (14 &&& 31))), (0, .ref (xr g (200 + 4 * c4.toNatClampNeg))), (1, .int c5), (2, .ref (xr g 14)), (3, .int v6)]) hx hb dX10_run_197 hl (k := 6) rfl rfl (by decide) rfl (fun ls hl => ?_)
          refine lv_goto (tgt := 20) hx hb dX10_run_200 (by decide) ?_
          exact ih _ _ _ X _ _ _ hf hw (lv_sub hl [3, 4, 5, 6, 0] rfl) kx
        · have hf := (if_neg cn29).symm.trans hf
          refine lv_aload_n hx hb dX10_run_74 rfl (lv_at hl 2 rfl) ?_
          refine x_tg_pile hc hw hr9 fl_10_9 dX10_run_75 ?_
          refine lv_iload_n hx hb dX10_run_78 rfl (lv_at hl 5 rfl) ?_
          refine lv_iload hx hb dX10_run_79 (lv_at hl 1 rfl) ?_
          refine lv_iconst (v := 1) hx hb dX10_run_81 (by decide) ?_
          obtain ⟨v14, hX30, hf⟩ := bd1_some hf
          have kJ31 : ∀ (H : Heap) (locs : List Loc) (ls : Array Slot), xI g A H0 s S8 H locs → lv_has ls 8 [(0, .ref (xr g (200 + 4 * c4.toNatClampNeg))), (1, .int c5), (2, .ref (xr g 14)), (3, .int v6), (4, .int v7)] → W p l e R s m args below meth c H locs 0 0 Q (F0 m 94 ls [.int v14, .int v6, .ref (xr g (200 + (4 * c4.toNatClampNeg + 3)))]) := by
            intro H locs ls hw hl
            obtain ⟨hi15, hf⟩ := gd_some hf
            refine x_s_pile hc hw hr9 (ok_in hi15) dX10_run_94 (fun H locs hw => ?_)
            refine lv_iinc (lv' := [(3, .int (v6 + 1)), (0, .ref (xr g (200 + 4 * c4.toNatClampNeg))), (1, .int c5), (2, .ref (xr g 14)), (4, .int v7)]) hx hb dX10_run_95 hl (k := 3) rfl rfl (by decide) rfl (fun ls hl => ?_)
            refine lv_goto (tgt := 197) hx hb dX10_run_98 (by decide) ?_
            refine lv_iinc (lv' := [(4, .int (v7 + 1)), (3, .int (v6 + 1)), (0, .ref (xr g (200 + 4 * c4.toNatClampNeg))), (1, .int c5), (2, .ref (xr g 14))]) hx hb dX10_run_197 hl (k := 4) rfl rfl (by decide) rfl (fun ls hl => ?_)
            refine lv_goto (tgt := 20) hx hb dX10_run_200 (by decide) ?_
            exact ih _ _ _ X _ _ _ hf hw (lv_sub hl [2, 3, 4, 1, 0] rfl) kx
          refine lv_icmp_ne (tgt := 90) hx hb dX10_run_82 (by decide) (fun cn32 => ?_) (fun cn32 => ?_)
          · have hX30 := (if_neg cn32).symm.trans hX30
            refine lv_aload_n hx hb dX10_run_90 rfl (lv_at hl 4 rfl) ?_
            refine lv_iload hx hb dX10_run_91 (lv_at hl 0 rfl) ?_
            obtain ⟨hi13, hX30⟩ := gd_some hX30
            refine x_l_hall_names hc hw (ok_in hi13) dX10_run_93 ?_
            obtain rfl := Option.some.inj hX30
            exact kJ31 _ _ _ hw (lv_sub hl [2, 3, 4, 5, 6] rfl)
          · have hX30 := (if_pos cn32).symm.trans hX30
            refine lv_iload hx hb dX10_run_85 (lv_at hl 0 rfl) ?_
            refine lv_goto (tgt := 94) hx hb dX10_run_87 (by decide) ?_
            obtain rfl := Option.some.inj hX30
            exact kJ31 _ _ _ hw (lv_sub hl [2, 3, 4, 5, 6] rfl)
      · have hf := (if_neg cn28).symm.trans hf
        refine lv_iload hx hb dX10_run_62 (lv_at hl 1 rfl) ?_
        refine lv_iconst (v := 2) hx hb dX10_run_64 (by decide) ?_
        refine lv_icmp_ne (tgt := 101) hx hb dX10_run_65 (by decide) (fun cn33 => ?_) (fun cn33 => ?_)
        · have hf := (if_neg cn33).symm.trans hf
          refine lv_iload hx hb dX10_run_101 (lv_at hl 1 rfl) ?_
          refine lv_iconst (v := 5) hx hb dX10_run_103 (by decide) ?_
          refine lv_icmp_eq (tgt := 114) hx hb dX10_run_104 (by decide) (fun cn34 => ?_) (fun cn34 => ?_)
          · have hf := (if_pos cn34).symm.trans hf
            refine lv_iload_n hx hb dX10_run_114 rfl (lv_at hl 5 rfl) ?_
            refine lv_if_le (tgt := 197) hx hb dX10_run_115 (by decide) (fun cn35 => ?_) (fun cn35 => ?_)
            · have hf := (if_pos cn35).symm.trans hf
              refine lv_iinc (lv' := [(4, .int (v7 + 1)), (6, .int ((S8.1 (81 + 4 * c4.toNatClampNeg) v7.toNatClampNeg) &&& 16383)), (5, .int ((S8.1 (81 + 4 * c4.toNatClampNeg) v7.toNatClampNeg) >>> (14 &&& 31))), (0, .ref (xr g (200 + 4 * c4.toNatClampNeg))), (1, .int c5), (2, .ref (xr g 14)), (3, .int v6)]) hx hb dX10_run_197 hl (k := 6) rfl rfl (by decide) rfl (fun ls hl => ?_)
              refine lv_goto (tgt := 20) hx hb dX10_run_200 (by decide) ?_
              exact ih _ _ _ X _ _ _ hf hw (lv_sub hl [3, 4, 5, 6, 0] rfl) kx
            · have hf := (if_neg cn35).symm.trans hf
              refine lv_aload_n hx hb dX10_run_118 rfl (lv_at hl 2 rfl) ?_
              refine x_tg_pile hc hw hr9 fl_10_9 dX10_run_119 ?_
              refine lv_iload_n hx hb dX10_run_122 rfl (lv_at hl 5 rfl) ?_
              refine lv_iconst (v := 1) hx hb dX10_run_123 (by decide) ?_
              refine lv_isub hx hb dX10_run_124 ?_
              obtain ⟨hi16, hf⟩ := gd_some hf
              refine x_l_pile hc hw hr9 (ok_in hi16) dX10_run_125 ?_
              refine lv_istore (lv' := [(7, .int (S8.1 (83 + 4 * c4.toNatClampNeg) (v6 - 1).toNatClampNeg)), (6, .int ((S8.1 (81 + 4 * c4.toNatClampNeg) v7.toNatClampNeg) &&& 16383)), (5, .int ((S8.1 (81 + 4 * c4.toNatClampNeg) v7.toNatClampNeg) >>> (14 &&& 31))), (0, .ref (xr g (200 + 4 * c4.toNatClampNeg))), (1, .int c5), (2, .ref (xr g 14)), (3, .int v6), (4, .int v7)]) hx hb dX10_run_126 hl (by decide) rfl (fun ls hl => ?_)
              refine lv_aload_n hx hb dX10_run_128 rfl (lv_at hl 3 rfl) ?_
              refine x_tg_pile hc hw hr9 fl_10_9 dX10_run_129 ?_
              refine lv_iload_n hx hb dX10_run_132 rfl (lv_at hl 6 rfl) ?_
              refine lv_iconst (v := 1) hx hb dX10_run_133 (by decide) ?_
              refine lv_isub hx hb dX10_run_134 ?_
              refine lv_iload hx hb dX10_run_135 (lv_at hl 2 rfl) ?_
              refine lv_bipush (v := 6) hx hb dX10_run_137 (by decide) ?_
              obtain ⟨v17, hv17⟩ : ∃ y : Int32, y = (if ((S8.1 (81 + 4 * c4.toNatClampNeg) v7.toNatClampNeg) >>> (14 &&& 31)) = 6 then -(S8.1 (83 + 4 * c4.toNatClampNeg) (v6 - 1).toNatClampNeg) else (if (S8.1 (83 + 4 * c4.toNatClampNeg) (v6 - 1).toNatClampNeg) = 0 then 1 else 0)) := ⟨_, rfl⟩
              try rw [← hv17] at hf
              have kJ36 : ∀ v17x : Int32, v17 = v17x → ∀ (H : Heap) (locs : List Loc) (ls : Array Slot), xI g A H0 s S8 H locs → lv_has ls 8 [(0, .ref (xr g (200 + 4 * c4.toNatClampNeg))), (1, .int c5), (2, .ref (xr g 14)), (3, .int v6), (4, .int v7)] → W p l e R s m args below meth c H locs 0 0 Q (F0 m 158 ls [.int v17x, .int (v6 - 1), .ref (xr g (200 + (4 * c4.toNatClampNeg + 3)))]) := by
                intro v17x hxv17 H locs ls hw hl
                subst hxv17
                refine x_s_pile hc hw hr9 (ok_in hi16) dX10_run_158 (fun H locs hw => ?_)
                refine lv_goto (tgt := 197) hx hb dX10_run_159 (by decide) ?_
                refine lv_iinc (lv' := [(4, .int (v7 + 1)), (0, .ref (xr g (200 + 4 * c4.toNatClampNeg))), (1, .int c5), (2, .ref (xr g 14)), (3, .int v6)]) hx hb dX10_run_197 hl (k := 4) rfl rfl (by decide) rfl (fun ls hl => ?_)
                refine lv_goto (tgt := 20) hx hb dX10_run_200 (by decide) ?_
                exact ih _ _ _ X _ _ _ hf hw (lv_sub hl [1, 2, 3, 4, 0] rfl) kx
              refine lv_icmp_ne (tgt := 148) hx hb dX10_run_139 (by decide) (fun cn37 => ?_) (fun cn37 => ?_)
              · refine lv_iload hx hb dX10_run_148 (lv_at hl 0 rfl) ?_
                refine lv_if_ne (tgt := 157) hx hb dX10_run_150 (by decide) (fun cn38 => ?_) (fun cn38 => ?_)
                · refine lv_iconst (v := 0) hx hb dX10_run_157 (by decide) ?_
                  have ev17 : v17 = (0 : Int32) := by rw [hv17]; simp only [if_neg cn37, if_neg cn38]
                  exact kJ36 _ ev17 _ _ _ hw (lv_sub hl [3, 4, 5, 6, 7] rfl)
                · refine lv_iconst (v := 1) hx hb dX10_run_153 (by decide) ?_
                  refine lv_goto (tgt := 158) hx hb dX10_run_154 (by decide) ?_
                  have ev17 : v17 = (1 : Int32) := by rw [hv17]; simp only [if_neg cn37, if_pos cn38]
                  exact kJ36 _ ev17 _ _ _ hw (lv_sub hl [3, 4, 5, 6, 7] rfl)
              · refine lv_iload hx hb dX10_run_142 (lv_at hl 0 rfl) ?_
                refine lv_ineg hx hb dX10_run_144 ?_
                refine lv_goto (tgt := 158) hx hb dX10_run_145 (by decide) ?_
                have ev17 : v17 = (-(S8.1 (83 + 4 * c4.toNatClampNeg) (v6 - 1).toNatClampNeg)) := by rw [hv17]; simp only [if_pos cn37]
                exact kJ36 _ ev17 _ _ _ hw (lv_sub hl [3, 4, 5, 6, 7] rfl)
          · have hf := (if_neg cn34).symm.trans hf
            refine lv_iload hx hb dX10_run_107 (lv_at hl 1 rfl) ?_
            refine lv_bipush (v := 6) hx hb dX10_run_109 (by decide) ?_
            refine lv_icmp_ne (tgt := 162) hx hb dX10_run_111 (by decide) (fun cn39 => ?_) (fun cn39 => ?_)
            · have hf := (if_neg cn39).symm.trans hf
              refine lv_iload_n hx hb dX10_run_162 rfl (lv_at hl 5 rfl) ?_
              refine lv_iconst (v := 1) hx hb dX10_run_163 (by decide) ?_
              refine lv_icmp_le (tgt := 197) hx hb dX10_run_164 (by decide) (fun cn40 => ?_) (fun cn40 => ?_)
              · have hf := (if_pos cn40).symm.trans hf
                refine lv_iinc (lv' := [(4, .int (v7 + 1)), (6, .int ((S8.1 (81 + 4 * c4.toNatClampNeg) v7.toNatClampNeg) &&& 16383)), (5, .int ((S8.1 (81 + 4 * c4.toNatClampNeg) v7.toNatClampNeg) >>> (14 &&& 31))), (0, .ref (xr g (200 + 4 * c4.toNatClampNeg))), (1, .int c5), (2, .ref (xr g 14)), (3, .int v6)]) hx hb dX10_run_197 hl (k := 6) rfl rfl (by decide) rfl (fun ls hl => ?_)
                refine lv_goto (tgt := 20) hx hb dX10_run_200 (by decide) ?_
                exact ih _ _ _ X _ _ _ hf hw (lv_sub hl [3, 4, 5, 6, 0] rfl) kx
              · have hf := (if_neg cn40).symm.trans hf
                refine lv_iinc (lv' := [(3, .int (v6 + (-1))), (6, .int ((S8.1 (81 + 4 * c4.toNatClampNeg) v7.toNatClampNeg) &&& 16383)), (5, .int ((S8.1 (81 + 4 * c4.toNatClampNeg) v7.toNatClampNeg) >>> (14 &&& 31))), (0, .ref (xr g (200 + 4 * c4.toNatClampNeg))), (1, .int c5), (2, .ref (xr g 14)), (4, .int v7)]) hx hb dX10_run_167 hl (k := 5) rfl rfl (by decide) rfl (fun ls hl => ?_)
                refine lv_aload_n hx hb dX10_run_170 rfl (lv_at hl 3 rfl) ?_
                refine x_tg_pile hc hw hr9 fl_10_9 dX10_run_171 ?_
                refine lv_iload_n hx hb dX10_run_174 rfl (lv_at hl 0 rfl) ?_
                refine lv_iconst (v := 1) hx hb dX10_run_175 (by decide) ?_
                refine lv_isub hx hb dX10_run_176 ?_
                refine lv_iload hx hb dX10_run_177 (lv_at hl 2 rfl) ?_
                refine lv_aload_n hx hb dX10_run_179 rfl (lv_at hl 3 rfl) ?_
                refine x_tg_pile hc hw hr9 fl_10_9 dX10_run_180 ?_
                refine lv_iload_n hx hb dX10_run_183 rfl (lv_at hl 0 rfl) ?_
                refine lv_iconst (v := 1) hx hb dX10_run_184 (by decide) ?_
                refine lv_isub hx hb dX10_run_185 ?_
                obtain ⟨hi18, hf⟩ := gd_some hf
                refine x_l_pile hc hw hr9 (ok_in hi18) dX10_run_186 ?_
                refine lv_aload_n hx hb dX10_run_187 rfl (lv_at hl 3 rfl) ?_
                refine x_tg_pile hc hw hr9 fl_10_9 dX10_run_188 ?_
                refine lv_iload_n hx hb dX10_run_191 rfl (lv_at hl 0 rfl) ?_
                obtain ⟨hi19, hf⟩ := gd_some hf
                refine x_l_pile hc hw hr9 (ok_in hi19) dX10_run_192 ?_
                refine x_csi (As := [.int ((S8.1 (81 + 4 * c4.toNatClampNeg) v7.toNatClampNeg) >>> (14 &&& 31)), .int (S8.1 (83 + 4 * c4.toNatClampNeg) ((v6 + (-1)) - 1).toNatClampNeg), .int (S8.1 (83 + 4 * c4.toNatClampNeg) (v6 + (-1)).toNatClampNeg)]) (rest := [.int ((v6 + (-1)) - 1), .ref (xr g (200 + (4 * c4.toNatClampNeg + 3)))]) hc hw hR (hml.trans hl.1.symm) (cx_T_joined l S8 ((S8.1 (81 + 4 * c4.toNatClampNeg) v7.toNatClampNeg) >>> (14 &&& 31)) (S8.1 (83 + 4 * c4.toNatClampNeg) ((v6 + (-1)) - 1).toNatClampNeg) (S8.1 (83 + 4 * c4.toNatClampNeg) (v6 + (-1)).toNatClampNeg) _ rfl) xq_10_T_joined (by decide) rfl rfl rfl (Nat.le_of_ble_eq_true rfl) dX10_run_193 (fun H locs hw => ?_) ⟨Nat.zero_le _, Nat.zero_le _⟩
                refine x_s_pile hc hw hr9 (ok_in hi18) dX10_run_196 (fun H locs hw => ?_)
                refine lv_iinc (lv' := [(4, .int (v7 + 1)), (3, .int (v6 + (-1))), (6, .int ((S8.1 (81 + 4 * c4.toNatClampNeg) v7.toNatClampNeg) &&& 16383)), (5, .int ((S8.1 (81 + 4 * c4.toNatClampNeg) v7.toNatClampNeg) >>> (14 &&& 31))), (0, .ref (xr g (200 + 4 * c4.toNatClampNeg))), (1, .int c5), (2, .ref (xr g 14))]) hx hb dX10_run_197 hl (k := 6) rfl rfl (by decide) rfl (fun ls hl => ?_)
                refine lv_goto (tgt := 20) hx hb dX10_run_200 (by decide) ?_
                exact ih _ _ _ X _ _ _ hf hw (lv_sub hl [4, 5, 6, 1, 0] rfl) kx
            · have hf := (if_pos cn39).symm.trans hf
              refine lv_iload_n hx hb dX10_run_114 rfl (lv_at hl 5 rfl) ?_
              refine lv_if_le (tgt := 197) hx hb dX10_run_115 (by decide) (fun cn41 => ?_) (fun cn41 => ?_)
              · have hf := (if_pos cn41).symm.trans hf
                refine lv_iinc (lv' := [(4, .int (v7 + 1)), (6, .int ((S8.1 (81 + 4 * c4.toNatClampNeg) v7.toNatClampNeg) &&& 16383)), (5, .int ((S8.1 (81 + 4 * c4.toNatClampNeg) v7.toNatClampNeg) >>> (14 &&& 31))), (0, .ref (xr g (200 + 4 * c4.toNatClampNeg))), (1, .int c5), (2, .ref (xr g 14)), (3, .int v6)]) hx hb dX10_run_197 hl (k := 6) rfl rfl (by decide) rfl (fun ls hl => ?_)
                refine lv_goto (tgt := 20) hx hb dX10_run_200 (by decide) ?_
                exact ih _ _ _ X _ _ _ hf hw (lv_sub hl [3, 4, 5, 6, 0] rfl) kx
              · have hf := (if_neg cn41).symm.trans hf
                refine lv_aload_n hx hb dX10_run_118 rfl (lv_at hl 2 rfl) ?_
                refine x_tg_pile hc hw hr9 fl_10_9 dX10_run_119 ?_
                refine lv_iload_n hx hb dX10_run_122 rfl (lv_at hl 5 rfl) ?_
                refine lv_iconst (v := 1) hx hb dX10_run_123 (by decide) ?_
                refine lv_isub hx hb dX10_run_124 ?_
                obtain ⟨hi20, hf⟩ := gd_some hf
                refine x_l_pile hc hw hr9 (ok_in hi20) dX10_run_125 ?_
                refine lv_istore (lv' := [(7, .int (S8.1 (83 + 4 * c4.toNatClampNeg) (v6 - 1).toNatClampNeg)), (6, .int ((S8.1 (81 + 4 * c4.toNatClampNeg) v7.toNatClampNeg) &&& 16383)), (5, .int ((S8.1 (81 + 4 * c4.toNatClampNeg) v7.toNatClampNeg) >>> (14 &&& 31))), (0, .ref (xr g (200 + 4 * c4.toNatClampNeg))), (1, .int c5), (2, .ref (xr g 14)), (3, .int v6), (4, .int v7)]) hx hb dX10_run_126 hl (by decide) rfl (fun ls hl => ?_)
                refine lv_aload_n hx hb dX10_run_128 rfl (lv_at hl 3 rfl) ?_
                refine x_tg_pile hc hw hr9 fl_10_9 dX10_run_129 ?_
                refine lv_iload_n hx hb dX10_run_132 rfl (lv_at hl 6 rfl) ?_
                refine lv_iconst (v := 1) hx hb dX10_run_133 (by decide) ?_
                refine lv_isub hx hb dX10_run_134 ?_
                refine lv_iload hx hb dX10_run_135 (lv_at hl 2 rfl) ?_
                refine lv_bipush (v := 6) hx hb dX10_run_137 (by decide) ?_
                obtain ⟨v21, hv21⟩ : ∃ y : Int32, y = (if ((S8.1 (81 + 4 * c4.toNatClampNeg) v7.toNatClampNeg) >>> (14 &&& 31)) = 6 then -(S8.1 (83 + 4 * c4.toNatClampNeg) (v6 - 1).toNatClampNeg) else (if (S8.1 (83 + 4 * c4.toNatClampNeg) (v6 - 1).toNatClampNeg) = 0 then 1 else 0)) := ⟨_, rfl⟩
                try rw [← hv21] at hf
                have kJ42 : ∀ v21x : Int32, v21 = v21x → ∀ (H : Heap) (locs : List Loc) (ls : Array Slot), xI g A H0 s S8 H locs → lv_has ls 8 [(0, .ref (xr g (200 + 4 * c4.toNatClampNeg))), (1, .int c5), (2, .ref (xr g 14)), (3, .int v6), (4, .int v7)] → W p l e R s m args below meth c H locs 0 0 Q (F0 m 158 ls [.int v21x, .int (v6 - 1), .ref (xr g (200 + (4 * c4.toNatClampNeg + 3)))]) := by
                  intro v21x hxv21 H locs ls hw hl
                  subst hxv21
                  refine x_s_pile hc hw hr9 (ok_in hi20) dX10_run_158 (fun H locs hw => ?_)
                  refine lv_goto (tgt := 197) hx hb dX10_run_159 (by decide) ?_
                  refine lv_iinc (lv' := [(4, .int (v7 + 1)), (0, .ref (xr g (200 + 4 * c4.toNatClampNeg))), (1, .int c5), (2, .ref (xr g 14)), (3, .int v6)]) hx hb dX10_run_197 hl (k := 4) rfl rfl (by decide) rfl (fun ls hl => ?_)
                  refine lv_goto (tgt := 20) hx hb dX10_run_200 (by decide) ?_
                  exact ih _ _ _ X _ _ _ hf hw (lv_sub hl [1, 2, 3, 4, 0] rfl) kx
                refine lv_icmp_ne (tgt := 148) hx hb dX10_run_139 (by decide) (fun cn43 => ?_) (fun cn43 => ?_)
                · refine lv_iload hx hb dX10_run_148 (lv_at hl 0 rfl) ?_
                  refine lv_if_ne (tgt := 157) hx hb dX10_run_150 (by decide) (fun cn44 => ?_) (fun cn44 => ?_)
                  · refine lv_iconst (v := 0) hx hb dX10_run_157 (by decide) ?_
                    have ev21 : v21 = (0 : Int32) := by rw [hv21]; simp only [if_neg cn43, if_neg cn44]
                    exact kJ42 _ ev21 _ _ _ hw (lv_sub hl [3, 4, 5, 6, 7] rfl)
                  · refine lv_iconst (v := 1) hx hb dX10_run_153 (by decide) ?_
                    refine lv_goto (tgt := 158) hx hb dX10_run_154 (by decide) ?_
                    have ev21 : v21 = (1 : Int32) := by rw [hv21]; simp only [if_neg cn43, if_pos cn44]
                    exact kJ42 _ ev21 _ _ _ hw (lv_sub hl [3, 4, 5, 6, 7] rfl)
                · refine lv_iload hx hb dX10_run_142 (lv_at hl 0 rfl) ?_
                  refine lv_ineg hx hb dX10_run_144 ?_
                  refine lv_goto (tgt := 158) hx hb dX10_run_145 (by decide) ?_
                  have ev21 : v21 = (-(S8.1 (83 + 4 * c4.toNatClampNeg) (v6 - 1).toNatClampNeg)) := by rw [hv21]; simp only [if_pos cn43]
                  exact kJ42 _ ev21 _ _ _ hw (lv_sub hl [3, 4, 5, 6, 7] rfl)
        · have hf := (if_pos cn33).symm.trans hf
          refine lv_iload_n hx hb dX10_run_68 rfl (lv_at hl 5 rfl) ?_
          refine lv_bipush (v := 32) hx hb dX10_run_69 (by decide) ?_
          refine lv_icmp_ge (tgt := 197) hx hb dX10_run_71 (by decide) (fun cn45 => ?_) (fun cn45 => ?_)
          · have hf := (if_pos cn45).symm.trans hf
            refine lv_iinc (lv' := [(4, .int (v7 + 1)), (6, .int ((S8.1 (81 + 4 * c4.toNatClampNeg) v7.toNatClampNeg) &&& 16383)), (5, .int ((S8.1 (81 + 4 * c4.toNatClampNeg) v7.toNatClampNeg) >>> (14 &&& 31))), (0, .ref (xr g (200 + 4 * c4.toNatClampNeg))), (1, .int c5), (2, .ref (xr g 14)), (3, .int v6)]) hx hb dX10_run_197 hl (k := 6) rfl rfl (by decide) rfl (fun ls hl => ?_)
            refine lv_goto (tgt := 20) hx hb dX10_run_200 (by decide) ?_
            exact ih _ _ _ X _ _ _ hf hw (lv_sub hl [3, 4, 5, 6, 0] rfl) kx
          · have hf := (if_neg cn45).symm.trans hf
            refine lv_aload_n hx hb dX10_run_74 rfl (lv_at hl 2 rfl) ?_
            refine x_tg_pile hc hw hr9 fl_10_9 dX10_run_75 ?_
            refine lv_iload_n hx hb dX10_run_78 rfl (lv_at hl 5 rfl) ?_
            refine lv_iload hx hb dX10_run_79 (lv_at hl 1 rfl) ?_
            refine lv_iconst (v := 1) hx hb dX10_run_81 (by decide) ?_
            obtain ⟨v23, hX46, hf⟩ := bd1_some hf
            have kJ47 : ∀ (H : Heap) (locs : List Loc) (ls : Array Slot), xI g A H0 s S8 H locs → lv_has ls 8 [(0, .ref (xr g (200 + 4 * c4.toNatClampNeg))), (1, .int c5), (2, .ref (xr g 14)), (3, .int v6), (4, .int v7)] → W p l e R s m args below meth c H locs 0 0 Q (F0 m 94 ls [.int v23, .int v6, .ref (xr g (200 + (4 * c4.toNatClampNeg + 3)))]) := by
              intro H locs ls hw hl
              obtain ⟨hi24, hf⟩ := gd_some hf
              refine x_s_pile hc hw hr9 (ok_in hi24) dX10_run_94 (fun H locs hw => ?_)
              refine lv_iinc (lv' := [(3, .int (v6 + 1)), (0, .ref (xr g (200 + 4 * c4.toNatClampNeg))), (1, .int c5), (2, .ref (xr g 14)), (4, .int v7)]) hx hb dX10_run_95 hl (k := 3) rfl rfl (by decide) rfl (fun ls hl => ?_)
              refine lv_goto (tgt := 197) hx hb dX10_run_98 (by decide) ?_
              refine lv_iinc (lv' := [(4, .int (v7 + 1)), (3, .int (v6 + 1)), (0, .ref (xr g (200 + 4 * c4.toNatClampNeg))), (1, .int c5), (2, .ref (xr g 14))]) hx hb dX10_run_197 hl (k := 4) rfl rfl (by decide) rfl (fun ls hl => ?_)
              refine lv_goto (tgt := 20) hx hb dX10_run_200 (by decide) ?_
              exact ih _ _ _ X _ _ _ hf hw (lv_sub hl [2, 3, 4, 1, 0] rfl) kx
            refine lv_icmp_ne (tgt := 90) hx hb dX10_run_82 (by decide) (fun cn48 => ?_) (fun cn48 => ?_)
            · have hX46 := (if_neg cn48).symm.trans hX46
              refine lv_aload_n hx hb dX10_run_90 rfl (lv_at hl 4 rfl) ?_
              refine lv_iload hx hb dX10_run_91 (lv_at hl 0 rfl) ?_
              obtain ⟨hi22, hX46⟩ := gd_some hX46
              refine x_l_hall_names hc hw (ok_in hi22) dX10_run_93 ?_
              obtain rfl := Option.some.inj hX46
              exact kJ47 _ _ _ hw (lv_sub hl [2, 3, 4, 5, 6] rfl)
            · have hX46 := (if_pos cn48).symm.trans hX46
              refine lv_iload hx hb dX10_run_85 (lv_at hl 0 rfl) ?_
              refine lv_goto (tgt := 94) hx hb dX10_run_87 (by decide) ?_
              obtain rfl := Option.some.inj hX46
              exact kJ47 _ _ _ hw (lv_sub hl [2, 3, 4, 5, 6] rfl)
def xf_T_run (N : Nat) (S : xS) (a0 : Int32) (a1 : Int32) : Option (Int32 × xS) := (bd1 (if a1 ≤ 0 then some 0 else (if a0.toNatClampNeg < S.2.2.2 then (if ok (a1 - 1) 3 then some (S.1 (82 + 4 * a0.toNatClampNeg) (a1 - 1).toNatClampNeg) else none) else none)) fun v3 => (bd1 (xf_T_run_L20 N a0 a1 N S 0 v3) fun S25 => (if a0.toNatClampNeg < S25.2.2.2 then some (S25.1 (83 + 4 * a0.toNatClampNeg) (0 : Int32).toNatClampNeg, S25) else none)))
set_option maxRecDepth 100000 in
theorem cx_T_run (l : Launch) (N : Nat) (S : xS) (a0 : Int32) (a1 : Int32) (res : Int32) (S1 : xS) (hf : xf_T_run N S a0 a1 = some (res, S1)) : xMi l yX10_run cX10_run 8 .int 3 (fun g => [.ref (xr g (200 + 4 * a0.toNatClampNeg)), .int a1, .ref (xr g 14)]) S res S1 := by
  refine xMi_of (own := RX10) (by decide) rfl rfl (fun g => Nat.le_of_ble_eq_true rfl) ?_
  intro p e R s m args below meth c Q g A H0 H locs ls hc hR hml hw hl hQ
  have hl : lv_has ls 8 [(0, .ref (xr g (200 + 4 * a0.toNatClampNeg))), (1, .int a1), (2, .ref (xr g 14))] := hl
  have hx := hc.1
  have hb := hc.2.1
  unfold xf_T_run at hf
  refine lv_iconst (v := 0) hx hb dX10_run_0 (by decide) ?_
  refine lv_istore_n (lv' := [(3, .int 0), (0, .ref (xr g (200 + 4 * a0.toNatClampNeg))), (1, .int a1), (2, .ref (xr g 14))]) hx hb dX10_run_1 rfl hl (by decide) rfl (fun ls hl => ?_)
  refine lv_iload_n hx hb dX10_run_2 rfl (lv_at hl 2 rfl) ?_
  obtain ⟨v3, hX50, hf⟩ := bd1_some hf
  have kJ51 : ∀ (H : Heap) (locs : List Loc) (ls : Array Slot), xI g A H0 s S H locs → lv_has ls 8 [(0, .ref (xr g (200 + 4 * a0.toNatClampNeg))), (1, .int a1), (2, .ref (xr g 14)), (3, .int 0)] → W p l e R s m args below meth c H locs 0 0 Q (F0 m 18 ls [.int v3]) := by
    intro H locs ls hw hl
    refine lv_istore (lv' := [(4, .int v3), (0, .ref (xr g (200 + 4 * a0.toNatClampNeg))), (1, .int a1), (2, .ref (xr g 14)), (3, .int 0)]) hx hb dX10_run_18 hl (by decide) rfl (fun ls hl => ?_)
    obtain ⟨S25, hL, hf⟩ := bd1_some hf
    refine wx_T_run_L20 hc hR hml N a0 a1 N _ _ _ _ _ _ _ hL hw (lv_sub hl [1, 2, 3, 4, 0] rfl) (fun H locs ls hw hl => ?_)
    refine lv_aload_n hx hb dX10_run_203 rfl (lv_at hl 0 rfl) ?_
    obtain ⟨hr26, hf⟩ := gd_some hf
    refine x_tg_pile hc hw hr26 fl_10_9 dX10_run_204 ?_
    refine lv_iconst (v := 0) hx hb dX10_run_207 (by decide) ?_
    refine x_l_pile hc hw hr26 (ok_in (by decide)) dX10_run_208 ?_
    obtain ⟨rfl, rfl⟩ := pr2_some hf
    exact hQ _ _ _ _ dX10_run_209 hw
  refine lv_if_le (tgt := 17) hx hb dX10_run_3 (by decide) (fun cn52 => ?_) (fun cn52 => ?_)
  · have hX50 := (if_pos cn52).symm.trans hX50
    refine lv_iconst (v := 0) hx hb dX10_run_17 (by decide) ?_
    obtain rfl := Option.some.inj hX50
    exact kJ51 _ _ _ hw (lv_sub hl [1, 2, 3, 0] rfl)
  · have hX50 := (if_neg cn52).symm.trans hX50
    refine lv_aload_n hx hb dX10_run_6 rfl (lv_at hl 1 rfl) ?_
    obtain ⟨hr1, hX50⟩ := gd_some hX50
    refine x_tg_ends hc hw hr1 fl_10_16 dX10_run_7 ?_
    refine lv_iload_n hx hb dX10_run_10 rfl (lv_at hl 2 rfl) ?_
    refine lv_iconst (v := 1) hx hb dX10_run_11 (by decide) ?_
    refine lv_isub hx hb dX10_run_12 ?_
    obtain ⟨hi2, hX50⟩ := gd_some hX50
    refine x_l_ends hc hw hr1 (ok_in hi2) dX10_run_13 ?_
    refine lv_goto (tgt := 18) hx hb dX10_run_14 (by decide) ?_
    obtain rfl := Option.some.inj hX50
    exact kJ51 _ _ _ hw (lv_sub hl [1, 2, 3, 0] rfl)
def xf_X_sort (N : Nat) (S : xS) (a1 : Int32) (a2 : Int32) (a3 : Int32) : Option (Int32 × xS) := (if (xf_X_isSort a1) = true then (if (xf_X_isIn a2 0 2) = true then (if (xf_X_isIn a3 0 ((if a2 = 2 then 9 else 40) : Int32)) = true then (if a2 = 0 then (if ok a1 4 then some (S.1 8 a1.toNatClampNeg, xs S 8 a1.toNatClampNeg a3) else none) else (if a2 = 1 then (if ok a1 4 then some (S.1 9 a1.toNatClampNeg, xs S 9 a1.toNatClampNeg a3) else none) else (if ok a1 4 then some (S.1 10 a1.toNatClampNeg, xs S 10 a1.toNatClampNeg a3) else none))) else some ((-2), S)) else some ((-2), S)) else some ((-1), S))
set_option maxRecDepth 100000 in
theorem cx_X_sort (l : Launch) (N : Nat) (S : xS) (a1 : Int32) (a2 : Int32) (a3 : Int32) (res : Int32) (S1 : xS) (hf : xf_X_sort N S a1 a2 a3 = some (res, S1)) : xMi l yX11_sort cX11_sort 6 .int 4 (fun g => [.ref (xr g 0), .int a1, .int a2, .int a3]) S res S1 := by
  refine xMi_of (own := RX11) (by decide) rfl rfl (fun g => Nat.le_of_ble_eq_true rfl) ?_
  intro p e R s m args below meth c Q g A H0 H locs ls hc hR hml hw hl hQ
  have hl : lv_has ls 6 [(0, .ref (xr g 0)), (1, .int a1), (2, .int a2), (3, .int a3)] := hl
  have hx := hc.1
  have hb := hc.2.1
  unfold xf_X_sort at hf
  refine lv_iload_n hx hb dX11_sort_0 rfl (lv_at hl 1 rfl) ?_
  refine x_csi (As := [.int a1]) (rest := []) hc hw hR (hml.trans hl.1.symm) (cx_X_isSort l S a1 _ rfl) xq_11_X_isSort (by decide) rfl rfl rfl (Nat.le_of_ble_eq_true rfl) dX11_sort_1 (fun H locs hw => ?_) ⟨Nat.zero_le _, Nat.zero_le _⟩
  refine lv_if_neb (tgt := 9) hx hb dX11_sort_4 (by decide) (fun cn5 => ?_) (fun cn5 => ?_)
  · have hf := (if_pos cn5).symm.trans hf
    refine lv_iload_n hx hb dX11_sort_9 rfl (lv_at hl 2 rfl) ?_
    refine lv_iconst (v := 0) hx hb dX11_sort_10 (by decide) ?_
    refine lv_iconst (v := 2) hx hb dX11_sort_11 (by decide) ?_
    refine x_csi (As := [.int a2, .int 0, .int 2]) (rest := []) hc hw hR (hml.trans hl.1.symm) (cx_X_isIn l S a2 0 2 _ rfl) xq_11_X_isIn (by decide) rfl rfl rfl (Nat.le_of_ble_eq_true rfl) dX11_sort_12 (fun H locs hw => ?_) ⟨Nat.zero_le _, Nat.zero_le _⟩
    refine lv_if_eqb (tgt := 38) hx hb dX11_sort_15 (by decide) (fun cn6 => ?_) (fun cn6 => ?_)
    · have hf := (if_neg cn6).symm.trans hf
      refine lv_bipush (v := (-2)) hx hb dX11_sort_38 (by decide) ?_
      obtain ⟨rfl, rfl⟩ := pr2_some hf
      exact hQ _ _ _ _ dX11_sort_40 hw
    · have hf := (if_pos cn6).symm.trans hf
      refine lv_iload_n hx hb dX11_sort_18 rfl (lv_at hl 3 rfl) ?_
      refine lv_iconst (v := 0) hx hb dX11_sort_19 (by decide) ?_
      refine lv_iload_n hx hb dX11_sort_20 rfl (lv_at hl 2 rfl) ?_
      refine lv_iconst (v := 2) hx hb dX11_sort_21 (by decide) ?_
      obtain ⟨v1, hv1⟩ : ∃ y : Int32, y = (if a2 = 2 then 9 else 40) := ⟨_, rfl⟩
      try rw [← hv1] at hf
      have kJ10 : ∀ v1x : Int32, v1 = v1x → ∀ (H : Heap) (locs : List Loc) (ls : Array Slot), xI g A H0 s S H locs → lv_has ls 6 [(0, .ref (xr g 0)), (1, .int a1), (2, .int a2), (3, .int a3)] → W p l e R s m args below meth c H locs 0 0 Q (F0 m 32 ls [.int v1x, .int 0, .int a3]) := by
        intro v1x hxv1 H locs ls hw hl
        subst hxv1
        refine x_csi (As := [.int a3, .int 0, .int v1]) (rest := []) hc hw hR (hml.trans hl.1.symm) (cx_X_isIn l S a3 0 v1 _ rfl) xq_11_X_isIn (by decide) rfl rfl rfl (Nat.le_of_ble_eq_true rfl) dX11_sort_32 (fun H locs hw => ?_) ⟨Nat.zero_le _, Nat.zero_le _⟩
        refine lv_if_neb (tgt := 41) hx hb dX11_sort_35 (by decide) (fun cn7 => ?_) (fun cn7 => ?_)
        · have hf := (if_pos cn7).symm.trans hf
          refine lv_iload_n hx hb dX11_sort_41 rfl (lv_at hl 2 rfl) ?_
          refine lv_if_ne (tgt := 55) hx hb dX11_sort_42 (by decide) (fun cn8 => ?_) (fun cn8 => ?_)
          · have hf := (if_neg cn8).symm.trans hf
            refine lv_iload_n hx hb dX11_sort_55 rfl (lv_at hl 2 rfl) ?_
            refine lv_iconst (v := 1) hx hb dX11_sort_56 (by decide) ?_
            refine lv_icmp_ne (tgt := 70) hx hb dX11_sort_57 (by decide) (fun cn9 => ?_) (fun cn9 => ?_)
            · have hf := (if_neg cn9).symm.trans hf
              refine lv_aload_n hx hb dX11_sort_70 rfl (lv_at hl 0 rfl) ?_
              refine x_g_this_hall hc hw fl_11_10 dX11_sort_71 ?_
              refine x_g_hall_counts hc hw fl_11_110 dX11_sort_74 ?_
              refine lv_astore (lv' := [(4, .ref (xr g 11)), (0, .ref (xr g 0)), (1, .int a1), (2, .int a2), (3, .int a3)]) hx hb dX11_sort_77 hl (by decide) rfl (fun ls hl => ?_)
              refine lv_aload hx hb dX11_sort_79 (lv_at hl 0 rfl) ?_
              refine lv_iload_n hx hb dX11_sort_81 rfl (lv_at hl 2 rfl) ?_
              obtain ⟨hi2, hf⟩ := gd_some hf
              refine x_l_hall_counts hc hw (ok_in hi2) dX11_sort_82 ?_
              refine lv_istore (lv' := [(5, .int (S.1 10 a1.toNatClampNeg)), (4, .ref (xr g 11)), (0, .ref (xr g 0)), (1, .int a1), (2, .int a2), (3, .int a3)]) hx hb dX11_sort_83 hl (by decide) rfl (fun ls hl => ?_)
              refine lv_aload hx hb dX11_sort_85 (lv_at hl 1 rfl) ?_
              refine lv_iload_n hx hb dX11_sort_87 rfl (lv_at hl 3 rfl) ?_
              refine lv_iload_n hx hb dX11_sort_88 rfl (lv_at hl 5 rfl) ?_
              refine x_s_hall_counts hc hw (ok_in hi2) dX11_sort_89 (fun H locs hw => ?_)
              refine lv_iload hx hb dX11_sort_90 (lv_at hl 0 rfl) ?_
              obtain ⟨rfl, rfl⟩ := pr2_some hf
              exact hQ _ _ _ _ dX11_sort_92 hw
            · have hf := (if_pos cn9).symm.trans hf
              refine lv_aload_n hx hb dX11_sort_60 rfl (lv_at hl 0 rfl) ?_
              refine x_g_this_hall hc hw fl_11_10 dX11_sort_61 ?_
              refine x_g_hall_heads hc hw fl_11_107 dX11_sort_64 ?_
              refine lv_goto (tgt := 77) hx hb dX11_sort_67 (by decide) ?_
              refine lv_astore (lv' := [(4, .ref (xr g 13)), (0, .ref (xr g 0)), (1, .int a1), (2, .int a2), (3, .int a3)]) hx hb dX11_sort_77 hl (by decide) rfl (fun ls hl => ?_)
              refine lv_aload hx hb dX11_sort_79 (lv_at hl 0 rfl) ?_
              refine lv_iload_n hx hb dX11_sort_81 rfl (lv_at hl 2 rfl) ?_
              obtain ⟨hi3, hf⟩ := gd_some hf
              refine x_l_hall_heads hc hw (ok_in hi3) dX11_sort_82 ?_
              refine lv_istore (lv' := [(5, .int (S.1 9 a1.toNatClampNeg)), (4, .ref (xr g 13)), (0, .ref (xr g 0)), (1, .int a1), (2, .int a2), (3, .int a3)]) hx hb dX11_sort_83 hl (by decide) rfl (fun ls hl => ?_)
              refine lv_aload hx hb dX11_sort_85 (lv_at hl 1 rfl) ?_
              refine lv_iload_n hx hb dX11_sort_87 rfl (lv_at hl 3 rfl) ?_
              refine lv_iload_n hx hb dX11_sort_88 rfl (lv_at hl 5 rfl) ?_
              refine x_s_hall_heads hc hw (ok_in hi3) dX11_sort_89 (fun H locs hw => ?_)
              refine lv_iload hx hb dX11_sort_90 (lv_at hl 0 rfl) ?_
              obtain ⟨rfl, rfl⟩ := pr2_some hf
              exact hQ _ _ _ _ dX11_sort_92 hw
          · have hf := (if_pos cn8).symm.trans hf
            refine lv_aload_n hx hb dX11_sort_45 rfl (lv_at hl 0 rfl) ?_
            refine x_g_this_hall hc hw fl_11_10 dX11_sort_46 ?_
            refine x_g_hall_eyes hc hw fl_11_104 dX11_sort_49 ?_
            refine lv_goto (tgt := 77) hx hb dX11_sort_52 (by decide) ?_
            refine lv_astore (lv' := [(4, .ref (xr g 12)), (0, .ref (xr g 0)), (1, .int a1), (2, .int a2), (3, .int a3)]) hx hb dX11_sort_77 hl (by decide) rfl (fun ls hl => ?_)
            refine lv_aload hx hb dX11_sort_79 (lv_at hl 0 rfl) ?_
            refine lv_iload_n hx hb dX11_sort_81 rfl (lv_at hl 2 rfl) ?_
            obtain ⟨hi4, hf⟩ := gd_some hf
            refine x_l_hall_eyes hc hw (ok_in hi4) dX11_sort_82 ?_
            refine lv_istore (lv' := [(5, .int (S.1 8 a1.toNatClampNeg)), (4, .ref (xr g 12)), (0, .ref (xr g 0)), (1, .int a1), (2, .int a2), (3, .int a3)]) hx hb dX11_sort_83 hl (by decide) rfl (fun ls hl => ?_)
            refine lv_aload hx hb dX11_sort_85 (lv_at hl 1 rfl) ?_
            refine lv_iload_n hx hb dX11_sort_87 rfl (lv_at hl 3 rfl) ?_
            refine lv_iload_n hx hb dX11_sort_88 rfl (lv_at hl 5 rfl) ?_
            refine x_s_hall_eyes hc hw (ok_in hi4) dX11_sort_89 (fun H locs hw => ?_)
            refine lv_iload hx hb dX11_sort_90 (lv_at hl 0 rfl) ?_
            obtain ⟨rfl, rfl⟩ := pr2_some hf
            exact hQ _ _ _ _ dX11_sort_92 hw
        · have hf := (if_neg cn7).symm.trans hf
          refine lv_bipush (v := (-2)) hx hb dX11_sort_38 (by decide) ?_
          obtain ⟨rfl, rfl⟩ := pr2_some hf
          exact hQ _ _ _ _ dX11_sort_40 hw
      refine lv_icmp_ne (tgt := 30) hx hb dX11_sort_22 (by decide) (fun cn11 => ?_) (fun cn11 => ?_)
      · refine lv_bipush (v := 40) hx hb dX11_sort_30 (by decide) ?_
        have ev1 : v1 = (40 : Int32) := by rw [hv1]; simp only [if_neg cn11]
        exact kJ10 _ ev1 _ _ _ hw (lv_sub hl [0, 1, 2, 3] rfl)
      · refine lv_bipush (v := 9) hx hb dX11_sort_25 (by decide) ?_
        refine lv_goto (tgt := 32) hx hb dX11_sort_27 (by decide) ?_
        have ev1 : v1 = (9 : Int32) := by rw [hv1]; simp only [if_pos cn11]
        exact kJ10 _ ev1 _ _ _ hw (lv_sub hl [0, 1, 2, 3] rfl)
  · have hf := (if_neg cn5).symm.trans hf
    refine lv_iconst (v := (-1)) hx hb dX11_sort_7 (by decide) ?_
    obtain ⟨rfl, rfl⟩ := pr2_some hf
    exact hQ _ _ _ _ dX11_sort_8 hw
def xf_X_sit (N : Nat) (S : xS) (a1 : Int32) (a2 : Int32) (a3 : Int32) : Option (Int32 × xS) := (bd1 (xf_H_rowWith N S a1 a2) fun v1 => (if v1 < 0 then some ((-1), S) else (if (xf_X_isSort a3) = true then (if v1.toNatClampNeg < S.2.2.1 then (if ok a2 8 then some (S.1 (80 + 4 * v1.toNatClampNeg) a2.toNatClampNeg, xs S (80 + 4 * v1.toNatClampNeg) a2.toNatClampNeg a3) else none) else none) else some ((-2), S))))
set_option maxRecDepth 100000 in
theorem cx_X_sit (l : Launch) (N : Nat) (S : xS) (a1 : Int32) (a2 : Int32) (a3 : Int32) (res : Int32) (S1 : xS) (hf : xf_X_sit N S a1 a2 a3 = some (res, S1)) : xMi l yX11_sit cX11_sit 6 .int 4 (fun g => [.ref (xr g 0), .int a1, .int a2, .int a3]) S res S1 := by
  refine xMi_of (own := RX11) (by decide) rfl rfl (fun g => Nat.le_of_ble_eq_true rfl) ?_
  intro p e R s m args below meth c Q g A H0 H locs ls hc hR hml hw hl hQ
  have hl : lv_has ls 6 [(0, .ref (xr g 0)), (1, .int a1), (2, .int a2), (3, .int a3)] := hl
  have hx := hc.1
  have hb := hc.2.1
  unfold xf_X_sit at hf
  refine lv_aload_n hx hb dX11_sit_0 rfl (lv_at hl 0 rfl) ?_
  refine x_g_this_hall hc hw fl_11_10 dX11_sit_1 ?_
  refine lv_iload_n hx hb dX11_sit_4 rfl (lv_at hl 1 rfl) ?_
  refine lv_iload_n hx hb dX11_sit_5 rfl (lv_at hl 2 rfl) ?_
  obtain ⟨v1, hcall, hf⟩ := bd1_some hf
  refine x_cvr (As := [.int a1, .int a2]) (rest := []) hc hw hR (hml.trans hl.1.symm) (cx_H_rowWith l N S a1 a2 v1 hcall) xq_11_H_rowWith (x_recv_hall hw) (by decide) rfl rfl rfl (Nat.le_of_ble_eq_true rfl) dX11_sit_6 (fun H locs hw => ?_) ⟨Nat.zero_le _, Nat.zero_le _⟩
  refine x_splitr (fun cn2 => ?_) (fun cn2 => ?_)
  · have hf := (if_pos cn2).symm.trans hf
    refine lv_astoreN (lv' := [(4, .null), (0, .ref (xr g 0)), (1, .int a1), (2, .int a2), (3, .int a3)]) hx hb dX11_sit_9 hl (by decide) rfl (fun ls hl => ?_)
    refine lv_aloadN hx hb dX11_sit_11 (lv_at hl 0 rfl) ?_
    refine lv_ifnonnullN hx hb dX11_sit_13 ?_
    refine lv_iconst (v := (-1)) hx hb dX11_sit_16 (by decide) ?_
    obtain ⟨rfl, rfl⟩ := pr2_some hf
    exact hQ _ _ _ _ dX11_sit_17 hw
  · have hf := (if_neg cn2).symm.trans hf
    refine lv_astore (lv' := [(4, .ref (xr g (100 + 2 * v1.toNatClampNeg))), (0, .ref (xr g 0)), (1, .int a1), (2, .int a2), (3, .int a3)]) hx hb dX11_sit_9 hl (by decide) rfl (fun ls hl => ?_)
    refine lv_aload hx hb dX11_sit_11 (lv_at hl 0 rfl) ?_
    refine lv_ifnonnull (tgt := 18) hx hb dX11_sit_13 (by decide) ?_
    refine lv_iload_n hx hb dX11_sit_18 rfl (lv_at hl 4 rfl) ?_
    refine x_csi (As := [.int a3]) (rest := []) hc hw hR (hml.trans hl.1.symm) (cx_X_isSort l S a3 _ rfl) xq_11_X_isSort (by decide) rfl rfl rfl (Nat.le_of_ble_eq_true rfl) dX11_sit_19 (fun H locs hw => ?_) ⟨Nat.zero_le _, Nat.zero_le _⟩
    refine lv_if_neb (tgt := 28) hx hb dX11_sit_22 (by decide) (fun cn5 => ?_) (fun cn5 => ?_)
    · have hf := (if_pos cn5).symm.trans hf
      refine lv_aload hx hb dX11_sit_28 (lv_at hl 0 rfl) ?_
      obtain ⟨hr3, hf⟩ := gd_some hf
      refine x_rg_sorts hc hw hr3 fl_11_160 dX11_sit_30 ?_
      refine lv_iload_n hx hb dX11_sit_33 rfl (lv_at hl 3 rfl) ?_
      obtain ⟨hi4, hf⟩ := gd_some hf
      refine x_l_sorts hc hw hr3 (ok_in hi4) dX11_sit_34 ?_
      refine lv_istore (lv' := [(5, .int (S.1 (80 + 4 * v1.toNatClampNeg) a2.toNatClampNeg)), (4, .ref (xr g (100 + 2 * v1.toNatClampNeg))), (0, .ref (xr g 0)), (1, .int a1), (2, .int a2), (3, .int a3)]) hx hb dX11_sit_35 hl (by decide) rfl (fun ls hl => ?_)
      refine lv_aload hx hb dX11_sit_37 (lv_at hl 1 rfl) ?_
      refine x_rg_sorts hc hw hr3 fl_11_160 dX11_sit_39 ?_
      refine lv_iload_n hx hb dX11_sit_42 rfl (lv_at hl 4 rfl) ?_
      refine lv_iload_n hx hb dX11_sit_43 rfl (lv_at hl 5 rfl) ?_
      refine x_s_sorts hc hw hr3 (ok_in hi4) dX11_sit_44 (fun H locs hw => ?_)
      refine lv_iload hx hb dX11_sit_45 (lv_at hl 0 rfl) ?_
      obtain ⟨rfl, rfl⟩ := pr2_some hf
      exact hQ _ _ _ _ dX11_sit_47 hw
    · have hf := (if_neg cn5).symm.trans hf
      refine lv_bipush (v := (-2)) hx hb dX11_sit_25 (by decide) ?_
      obtain ⟨rfl, rfl⟩ := pr2_some hf
      exact hQ _ _ _ _ dX11_sit_27 hw
def xf_X_told (N : Nat) (S : xS) (a1 : Int32) (a2 : Int32) (a3 : Int32) : Option (Int32) := (bd1 (xf_H_rowWith N S a1 a2) fun v1 => (if v1 < 0 then some (-5) else (if a3 = 0 then (if v1.toNatClampNeg < S.2.2.1 then some (S.1 54 v1.toNatClampNeg) else none) else (if a3 = 1 then (if v1.toNatClampNeg < S.2.2.1 then (bd1 (xf_W_placeOf N S v1 a2) fun v5 => some v5) else none) else (if a3 = 2 then (if v1.toNatClampNeg < S.2.2.1 then (bd1 (xf_W_floor N S v1) fun v7 => some v7) else none) else (if a3 = 3 then (if v1.toNatClampNeg < S.2.2.1 then some (S.1 61 v1.toNatClampNeg) else none) else (if a3 = 4 then (if v1.toNatClampNeg < S.2.2.1 then (if ok a2 8 then some (S.1 (80 + 4 * v1.toNatClampNeg) a2.toNatClampNeg) else none) else none) else (if a3 = 5 then (bd1 (xf_H_eyesOf N S v1 a2) fun v11 => some v11) else (if a3 = 6 then (bd1 (xf_H_topOf N S v1 a2) fun v12 => some v12) else (if a3 = 7 then (if v1.toNatClampNeg < S.2.2.1 then (if (S.1 63 v1.toNatClampNeg) = 0 then some 0 else some 1) else none) else some (-7)))))))))))
set_option maxRecDepth 100000 in
theorem cx_X_told (l : Launch) (N : Nat) (S : xS) (a1 : Int32) (a2 : Int32) (a3 : Int32) (res : Int32) (hf : xf_X_told N S a1 a2 a3 = some res) : xMi l yX11_told cX11_told 5 .int 4 (fun g => [.ref (xr g 0), .int a1, .int a2, .int a3]) S res S := by
  refine xMi_of (own := RX11) (by decide) rfl rfl (fun g => Nat.le_of_ble_eq_true rfl) ?_
  intro p e R s m args below meth c Q g A H0 H locs ls hc hR hml hw hl hQ
  have hl : lv_has ls 5 [(0, .ref (xr g 0)), (1, .int a1), (2, .int a2), (3, .int a3)] := hl
  have hx := hc.1
  have hb := hc.2.1
  unfold xf_X_told at hf
  refine lv_aload_n hx hb dX11_told_0 rfl (lv_at hl 0 rfl) ?_
  refine x_g_this_hall hc hw fl_11_10 dX11_told_1 ?_
  refine lv_iload_n hx hb dX11_told_4 rfl (lv_at hl 1 rfl) ?_
  refine lv_iload_n hx hb dX11_told_5 rfl (lv_at hl 2 rfl) ?_
  obtain ⟨v1, hcall, hf⟩ := bd1_some hf
  refine x_cvr (As := [.int a1, .int a2]) (rest := []) hc hw hR (hml.trans hl.1.symm) (cx_H_rowWith l N S a1 a2 v1 hcall) xq_11_H_rowWith (x_recv_hall hw) (by decide) rfl rfl rfl (Nat.le_of_ble_eq_true rfl) dX11_told_6 (fun H locs hw => ?_) ⟨Nat.zero_le _, Nat.zero_le _⟩
  refine x_splitr (fun cn2 => ?_) (fun cn2 => ?_)
  · have hf := (if_pos cn2).symm.trans hf
    refine lv_astoreN (lv' := [(4, .null), (0, .ref (xr g 0)), (1, .int a1), (2, .int a2), (3, .int a3)]) hx hb dX11_told_9 hl (by decide) rfl (fun ls hl => ?_)
    refine lv_aloadN hx hb dX11_told_11 (lv_at hl 0 rfl) ?_
    refine lv_ifnonnullN hx hb dX11_told_13 ?_
    refine lv_bipush (v := (-5)) hx hb dX11_told_16 (by decide) ?_
    obtain rfl := Option.some.inj hf
    exact hQ _ _ _ _ dX11_told_18 hw
  · have hf := (if_neg cn2).symm.trans hf
    refine lv_astore (lv' := [(4, .ref (xr g (100 + 2 * v1.toNatClampNeg))), (0, .ref (xr g 0)), (1, .int a1), (2, .int a2), (3, .int a3)]) hx hb dX11_told_9 hl (by decide) rfl (fun ls hl => ?_)
    refine lv_aload hx hb dX11_told_11 (lv_at hl 0 rfl) ?_
    refine lv_ifnonnull (tgt := 19) hx hb dX11_told_13 (by decide) ?_
    refine lv_iload_n hx hb dX11_told_19 rfl (lv_at hl 4 rfl) ?_
    by_cases cn14 : a3 = 0
    · have hf := (if_pos cn14).symm.trans hf
      refine lv_tableIn (tgt := 68) (off := 48) hx hb dX11_told_20 (by rw [cn14]; decide) (by rw [cn14]; decide) (by rw [cn14]; decide) (by decide) ?_
      refine lv_aload hx hb dX11_told_68 (lv_at hl 0 rfl) ?_
      obtain ⟨hr3, hf⟩ := gd_some hf
      refine x_rg_kind hc hw hr3 fl_11_163 dX11_told_70 ?_
      obtain rfl := Option.some.inj hf
      exact hQ _ _ _ _ dX11_told_73 hw
    have hf := (if_neg cn14).symm.trans hf
    by_cases cn15 : a3 = 1
    · have hf := (if_pos cn15).symm.trans hf
      refine lv_tableIn (tgt := 74) (off := 54) hx hb dX11_told_20 (by rw [cn15]; decide) (by rw [cn15]; decide) (by rw [cn15]; decide) (by decide) ?_
      refine lv_aload hx hb dX11_told_74 (lv_at hl 0 rfl) ?_
      refine lv_iload_n hx hb dX11_told_76 rfl (lv_at hl 3 rfl) ?_
      obtain ⟨hr4, hf⟩ := gd_some hf
      obtain ⟨v5, hcall, hf⟩ := bd1_some hf
      refine x_cri (As := [.int a2]) (rest := []) hc hw hR (hml.trans hl.1.symm) (cx_W_placeOf l N S v1 a2 v5 hcall) xq_11_W_placeOf hr4 (by decide) rfl rfl rfl (Nat.le_of_ble_eq_true rfl) dX11_told_77 (fun H locs hw => ?_) ⟨Nat.zero_le _, Nat.zero_le _⟩
      obtain rfl := Option.some.inj hf
      exact hQ _ _ _ _ dX11_told_80 hw
    have hf := (if_neg cn15).symm.trans hf
    by_cases cn16 : a3 = 2
    · have hf := (if_pos cn16).symm.trans hf
      refine lv_tableIn (tgt := 81) (off := 61) hx hb dX11_told_20 (by rw [cn16]; decide) (by rw [cn16]; decide) (by rw [cn16]; decide) (by decide) ?_
      refine lv_aload hx hb dX11_told_81 (lv_at hl 0 rfl) ?_
      obtain ⟨hr6, hf⟩ := gd_some hf
      obtain ⟨v7, hcall, hf⟩ := bd1_some hf
      refine x_cri (As := []) (rest := []) hc hw hR (hml.trans hl.1.symm) (cx_W_floor l N S v1 v7 hcall) xq_11_W_floor hr6 (by decide) rfl rfl rfl (Nat.le_of_ble_eq_true rfl) dX11_told_83 (fun H locs hw => ?_) ⟨Nat.zero_le _, Nat.zero_le _⟩
      obtain rfl := Option.some.inj hf
      exact hQ _ _ _ _ dX11_told_86 hw
    have hf := (if_neg cn16).symm.trans hf
    by_cases cn17 : a3 = 3
    · have hf := (if_pos cn17).symm.trans hf
      refine lv_tableIn (tgt := 87) (off := 67) hx hb dX11_told_20 (by rw [cn17]; decide) (by rw [cn17]; decide) (by rw [cn17]; decide) (by decide) ?_
      refine lv_aload hx hb dX11_told_87 (lv_at hl 0 rfl) ?_
      obtain ⟨hr8, hf⟩ := gd_some hf
      refine x_rg_far hc hw hr8 fl_11_173 dX11_told_89 ?_
      obtain rfl := Option.some.inj hf
      exact hQ _ _ _ _ dX11_told_92 hw
    have hf := (if_neg cn17).symm.trans hf
    by_cases cn18 : a3 = 4
    · have hf := (if_pos cn18).symm.trans hf
      refine lv_tableIn (tgt := 93) (off := 73) hx hb dX11_told_20 (by rw [cn18]; decide) (by rw [cn18]; decide) (by rw [cn18]; decide) (by decide) ?_
      refine lv_aload hx hb dX11_told_93 (lv_at hl 0 rfl) ?_
      obtain ⟨hr9, hf⟩ := gd_some hf
      refine x_rg_sorts hc hw hr9 fl_11_160 dX11_told_95 ?_
      refine lv_iload_n hx hb dX11_told_98 rfl (lv_at hl 3 rfl) ?_
      obtain ⟨hi10, hf⟩ := gd_some hf
      refine x_l_sorts hc hw hr9 (ok_in hi10) dX11_told_99 ?_
      obtain rfl := Option.some.inj hf
      exact hQ _ _ _ _ dX11_told_100 hw
    have hf := (if_neg cn18).symm.trans hf
    by_cases cn19 : a3 = 5
    · have hf := (if_pos cn19).symm.trans hf
      refine lv_tableIn (tgt := 101) (off := 81) hx hb dX11_told_20 (by rw [cn19]; decide) (by rw [cn19]; decide) (by rw [cn19]; decide) (by decide) ?_
      refine lv_aload_n hx hb dX11_told_101 rfl (lv_at hl 1 rfl) ?_
      refine x_g_this_hall hc hw fl_11_10 dX11_told_102 ?_
      refine lv_aload hx hb dX11_told_105 (lv_at hl 0 rfl) ?_
      refine lv_iload_n hx hb dX11_told_107 rfl (lv_at hl 3 rfl) ?_
      obtain ⟨v11, hcall, hf⟩ := bd1_some hf
      refine x_cvi (As := [.ref (xr g (100 + 2 * v1.toNatClampNeg)), .int a2]) (rest := []) hc hw hR (hml.trans hl.1.symm) (cx_H_eyesOf l N S v1 a2 v11 hcall) xq_11_H_eyesOf (x_recv_hall hw) (by decide) rfl rfl rfl (Nat.le_of_ble_eq_true rfl) dX11_told_108 (fun H locs hw => ?_) ⟨Nat.zero_le _, Nat.zero_le _⟩
      obtain rfl := Option.some.inj hf
      exact hQ _ _ _ _ dX11_told_111 hw
    have hf := (if_neg cn19).symm.trans hf
    by_cases cn20 : a3 = 6
    · have hf := (if_pos cn20).symm.trans hf
      refine lv_tableIn (tgt := 112) (off := 92) hx hb dX11_told_20 (by rw [cn20]; decide) (by rw [cn20]; decide) (by rw [cn20]; decide) (by decide) ?_
      refine lv_aload_n hx hb dX11_told_112 rfl (lv_at hl 1 rfl) ?_
      refine x_g_this_hall hc hw fl_11_10 dX11_told_113 ?_
      refine lv_aload hx hb dX11_told_116 (lv_at hl 0 rfl) ?_
      refine lv_iload_n hx hb dX11_told_118 rfl (lv_at hl 3 rfl) ?_
      obtain ⟨v12, hcall, hf⟩ := bd1_some hf
      refine x_cvi (As := [.ref (xr g (100 + 2 * v1.toNatClampNeg)), .int a2]) (rest := []) hc hw hR (hml.trans hl.1.symm) (cx_H_topOf l N S v1 a2 v12 hcall) xq_11_H_topOf (x_recv_hall hw) (by decide) rfl rfl rfl (Nat.le_of_ble_eq_true rfl) dX11_told_119 (fun H locs hw => ?_) ⟨Nat.zero_le _, Nat.zero_le _⟩
      obtain rfl := Option.some.inj hf
      exact hQ _ _ _ _ dX11_told_122 hw
    have hf := (if_neg cn20).symm.trans hf
    by_cases cn22 : a3 = 7
    · have hf := (if_pos cn22).symm.trans hf
      refine lv_tableIn (tgt := 123) (off := 103) hx hb dX11_told_20 (by rw [cn22]; decide) (by rw [cn22]; decide) (by rw [cn22]; decide) (by decide) ?_
      refine lv_aload hx hb dX11_told_123 (lv_at hl 0 rfl) ?_
      obtain ⟨hr13, hf⟩ := gd_some hf
      refine x_rg_among hc hw hr13 fl_11_183 dX11_told_125 ?_
      refine lv_if_eq (tgt := 135) hx hb dX11_told_128 (by decide) (fun cn21 => ?_) (fun cn21 => ?_)
      · have hf := (if_pos cn21).symm.trans hf
        refine lv_iconst (v := 0) hx hb dX11_told_135 (by decide) ?_
        obtain rfl := Option.some.inj hf
        exact hQ _ _ _ _ dX11_told_136 hw
      · have hf := (if_neg cn21).symm.trans hf
        refine lv_iconst (v := 1) hx hb dX11_told_131 (by decide) ?_
        refine lv_goto (tgt := 136) hx hb dX11_told_132 (by decide) ?_
        obtain rfl := Option.some.inj hf
        exact hQ _ _ _ _ dX11_told_136 hw
    have hf := (if_neg cn22).symm.trans hf
    refine lv_tableOut (tgt := 137) hx hb dX11_told_20 (by have hcn14 := sw_ne cn14 (k := 0) (by decide); have hcn15 := sw_ne cn15 (k := 1) (by decide); have hcn16 := sw_ne cn16 (k := 2) (by decide); have hcn17 := sw_ne cn17 (k := 3) (by decide); have hcn18 := sw_ne cn18 (k := 4) (by decide); have hcn19 := sw_ne cn19 (k := 5) (by decide); have hcn20 := sw_ne cn20 (k := 6) (by decide); have hcn22 := sw_ne cn22 (k := 7) (by decide); omega) (by decide) ?_
    refine lv_bipush (v := (-7)) hx hb dX11_told_137 (by decide) ?_
    obtain rfl := Option.some.inj hf
    exact hQ _ _ _ _ dX11_told_139 hw
def xf_X_post (N : Nat) (S : xS) (a1 : Int32) (a2 : Int32) : Option (Int32 × xS) := (if (xf_X_isPostPlace a1 a2) = true then (if (S.1 18 0) < 4 then (if ok (S.1 18 0) 4 then some (S.1 18 0, xs (xs (xs S 14 (S.1 18 0).toNatClampNeg a1) 15 (S.1 18 0).toNatClampNeg a2) 18 0 (((xs (xs S 14 (S.1 18 0).toNatClampNeg a1) 15 (S.1 18 0).toNatClampNeg a2).1 18 0) + 1)) else none) else some ((-4), S)) else some ((-2), S))
set_option maxRecDepth 100000 in
theorem cx_X_post (l : Launch) (N : Nat) (S : xS) (a1 : Int32) (a2 : Int32) (res : Int32) (S1 : xS) (hf : xf_X_post N S a1 a2 = some (res, S1)) : xMi l yX11_post cX11_post 4 .int 4 (fun g => [.ref (xr g 0), .int a1, .int a2]) S res S1 := by
  refine xMi_of (own := RX11) (by decide) rfl rfl (fun g => Nat.le_of_ble_eq_true rfl) ?_
  intro p e R s m args below meth c Q g A H0 H locs ls hc hR hml hw hl hQ
  have hl : lv_has ls 4 [(0, .ref (xr g 0)), (1, .int a1), (2, .int a2)] := hl
  have hx := hc.1
  have hb := hc.2.1
  unfold xf_X_post at hf
  refine lv_iload_n hx hb dX11_post_0 rfl (lv_at hl 1 rfl) ?_
  refine lv_iload_n hx hb dX11_post_1 rfl (lv_at hl 2 rfl) ?_
  refine x_csi (As := [.int a1, .int a2]) (rest := []) hc hw hR (hml.trans hl.1.symm) (cx_X_isPostPlace l S a1 a2 _ rfl) xq_11_X_isPostPlace (by decide) rfl rfl rfl (Nat.le_of_ble_eq_true rfl) dX11_post_2 (fun H locs hw => ?_) ⟨Nat.zero_le _, Nat.zero_le _⟩
  refine lv_if_neb (tgt := 11) hx hb dX11_post_5 (by decide) (fun cn2 => ?_) (fun cn2 => ?_)
  · have hf := (if_pos cn2).symm.trans hf
    refine lv_aload_n hx hb dX11_post_11 rfl (lv_at hl 0 rfl) ?_
    refine x_g_this_hall hc hw fl_11_10 dX11_post_12 ?_
    refine x_g_hall_postCount hc hw fl_11_203 dX11_post_15 ?_
    refine lv_istore_n (lv' := [(3, .int (S.1 18 0)), (0, .ref (xr g 0)), (1, .int a1), (2, .int a2)]) hx hb dX11_post_18 rfl hl (by decide) rfl (fun ls hl => ?_)
    refine lv_iload_n hx hb dX11_post_19 rfl (lv_at hl 0 rfl) ?_
    refine lv_iconst (v := 4) hx hb dX11_post_20 (by decide) ?_
    refine lv_icmp_lt (tgt := 27) hx hb dX11_post_21 (by decide) (fun cn3 => ?_) (fun cn3 => ?_)
    · have hf := (if_pos cn3).symm.trans hf
      refine lv_aload_n hx hb dX11_post_27 rfl (lv_at hl 1 rfl) ?_
      refine x_g_this_hall hc hw fl_11_10 dX11_post_28 ?_
      refine x_g_hall_postPlaces hc hw fl_11_206 dX11_post_31 ?_
      refine lv_iload_n hx hb dX11_post_34 rfl (lv_at hl 0 rfl) ?_
      refine lv_iload_n hx hb dX11_post_35 rfl (lv_at hl 2 rfl) ?_
      obtain ⟨hi1, hf⟩ := gd_some hf
      refine x_s_hall_postPlaces hc hw (ok_in hi1) dX11_post_36 (fun H locs hw => ?_)
      refine lv_aload_n hx hb dX11_post_37 rfl (lv_at hl 1 rfl) ?_
      refine x_g_this_hall hc hw fl_11_10 dX11_post_38 ?_
      refine x_g_hall_postFars hc hw fl_11_209 dX11_post_41 ?_
      refine lv_iload_n hx hb dX11_post_44 rfl (lv_at hl 0 rfl) ?_
      refine lv_iload_n hx hb dX11_post_45 rfl (lv_at hl 3 rfl) ?_
      refine x_s_hall_postFars hc hw (ok_in hi1) dX11_post_46 (fun H locs hw => ?_)
      refine lv_aload_n hx hb dX11_post_47 rfl (lv_at hl 1 rfl) ?_
      refine x_g_this_hall hc hw fl_11_10 dX11_post_48 ?_
      refine lv_dup hx hb dX11_post_51 rfl ?_
      refine x_g_hall_postCount hc hw fl_11_203 dX11_post_52 ?_
      refine lv_iconst (v := 1) hx hb dX11_post_55 (by decide) ?_
      refine lv_iadd hx hb dX11_post_56 ?_
      refine x_p_hall_postCount hc hw fl_11_203 dX11_post_57 (fun H locs hw => ?_)
      refine lv_iload_n hx hb dX11_post_60 rfl (lv_at hl 0 rfl) ?_
      obtain ⟨rfl, rfl⟩ := pr2_some hf
      exact hQ _ _ _ _ dX11_post_61 hw
    · have hf := (if_neg cn3).symm.trans hf
      refine lv_bipush (v := (-4)) hx hb dX11_post_24 (by decide) ?_
      obtain ⟨rfl, rfl⟩ := pr2_some hf
      exact hQ _ _ _ _ dX11_post_26 hw
  · have hf := (if_neg cn2).symm.trans hf
    refine lv_bipush (v := (-2)) hx hb dX11_post_8 (by decide) ?_
    obtain ⟨rfl, rfl⟩ := pr2_some hf
    exact hQ _ _ _ _ dX11_post_10 hw
def xf_X_moves (N : Nat) (S : xS) (a1 : Int32) (a2 : Int32) (a3 : Int32) : Option (Int32 × xS) := (if (xf_X_isPost S a1) = true then (if (xf_X_isPostPlace a2 a3) = true then (if ok a1 4 then some ((100 * (S.1 14 a1.toNatClampNeg)) + (S.1 15 a1.toNatClampNeg), xs (xs S 14 a1.toNatClampNeg a2) 15 a1.toNatClampNeg a3) else none) else some ((-2), S)) else some ((-1), S))
set_option maxRecDepth 100000 in
theorem cx_X_moves (l : Launch) (N : Nat) (S : xS) (a1 : Int32) (a2 : Int32) (a3 : Int32) (res : Int32) (S1 : xS) (hf : xf_X_moves N S a1 a2 a3 = some (res, S1)) : xMi l yX11_moves cX11_moves 5 .int 4 (fun g => [.ref (xr g 0), .int a1, .int a2, .int a3]) S res S1 := by
  refine xMi_of (own := RX11) (by decide) rfl rfl (fun g => Nat.le_of_ble_eq_true rfl) ?_
  intro p e R s m args below meth c Q g A H0 H locs ls hc hR hml hw hl hQ
  have hl : lv_has ls 5 [(0, .ref (xr g 0)), (1, .int a1), (2, .int a2), (3, .int a3)] := hl
  have hx := hc.1
  have hb := hc.2.1
  unfold xf_X_moves at hf
  refine lv_aload_n hx hb dX11_moves_0 rfl (lv_at hl 0 rfl) ?_
  refine lv_iload_n hx hb dX11_moves_1 rfl (lv_at hl 1 rfl) ?_
  refine x_cvi (As := [.int a1]) (rest := []) hc hw hR (hml.trans hl.1.symm) (cx_X_isPost l S a1 _ rfl) xq_11_X_isPost (x_recv_this hw) (by decide) rfl rfl rfl (Nat.le_of_ble_eq_true rfl) dX11_moves_2 (fun H locs hw => ?_) ⟨Nat.zero_le _, Nat.zero_le _⟩
  refine lv_if_neb (tgt := 10) hx hb dX11_moves_5 (by decide) (fun cn2 => ?_) (fun cn2 => ?_)
  · have hf := (if_pos cn2).symm.trans hf
    refine lv_iload_n hx hb dX11_moves_10 rfl (lv_at hl 2 rfl) ?_
    refine lv_iload_n hx hb dX11_moves_11 rfl (lv_at hl 3 rfl) ?_
    refine x_csi (As := [.int a2, .int a3]) (rest := []) hc hw hR (hml.trans hl.1.symm) (cx_X_isPostPlace l S a2 a3 _ rfl) xq_11_X_isPostPlace (by decide) rfl rfl rfl (Nat.le_of_ble_eq_true rfl) dX11_moves_12 (fun H locs hw => ?_) ⟨Nat.zero_le _, Nat.zero_le _⟩
    refine lv_if_neb (tgt := 21) hx hb dX11_moves_15 (by decide) (fun cn3 => ?_) (fun cn3 => ?_)
    · have hf := (if_pos cn3).symm.trans hf
      refine lv_bipush (v := 100) hx hb dX11_moves_21 (by decide) ?_
      refine lv_aload_n hx hb dX11_moves_23 rfl (lv_at hl 0 rfl) ?_
      refine x_g_this_hall hc hw fl_11_10 dX11_moves_24 ?_
      refine x_g_hall_postPlaces hc hw fl_11_206 dX11_moves_27 ?_
      refine lv_iload_n hx hb dX11_moves_30 rfl (lv_at hl 1 rfl) ?_
      obtain ⟨hi1, hf⟩ := gd_some hf
      refine x_l_hall_postPlaces hc hw (ok_in hi1) dX11_moves_31 ?_
      refine lv_imul hx hb dX11_moves_32 ?_
      refine lv_aload_n hx hb dX11_moves_33 rfl (lv_at hl 0 rfl) ?_
      refine x_g_this_hall hc hw fl_11_10 dX11_moves_34 ?_
      refine x_g_hall_postFars hc hw fl_11_209 dX11_moves_37 ?_
      refine lv_iload_n hx hb dX11_moves_40 rfl (lv_at hl 1 rfl) ?_
      refine x_l_hall_postFars hc hw (ok_in hi1) dX11_moves_41 ?_
      refine lv_iadd hx hb dX11_moves_42 ?_
      refine lv_istore (lv' := [(4, .int ((100 * (S.1 14 a1.toNatClampNeg)) + (S.1 15 a1.toNatClampNeg))), (0, .ref (xr g 0)), (1, .int a1), (2, .int a2), (3, .int a3)]) hx hb dX11_moves_43 hl (by decide) rfl (fun ls hl => ?_)
      refine lv_aload_n hx hb dX11_moves_45 rfl (lv_at hl 1 rfl) ?_
      refine x_g_this_hall hc hw fl_11_10 dX11_moves_46 ?_
      refine x_g_hall_postPlaces hc hw fl_11_206 dX11_moves_49 ?_
      refine lv_iload_n hx hb dX11_moves_52 rfl (lv_at hl 2 rfl) ?_
      refine lv_iload_n hx hb dX11_moves_53 rfl (lv_at hl 3 rfl) ?_
      refine x_s_hall_postPlaces hc hw (ok_in hi1) dX11_moves_54 (fun H locs hw => ?_)
      refine lv_aload_n hx hb dX11_moves_55 rfl (lv_at hl 1 rfl) ?_
      refine x_g_this_hall hc hw fl_11_10 dX11_moves_56 ?_
      refine x_g_hall_postFars hc hw fl_11_209 dX11_moves_59 ?_
      refine lv_iload_n hx hb dX11_moves_62 rfl (lv_at hl 2 rfl) ?_
      refine lv_iload_n hx hb dX11_moves_63 rfl (lv_at hl 4 rfl) ?_
      refine x_s_hall_postFars hc hw (ok_in hi1) dX11_moves_64 (fun H locs hw => ?_)
      refine lv_iload hx hb dX11_moves_65 (lv_at hl 0 rfl) ?_
      obtain ⟨rfl, rfl⟩ := pr2_some hf
      exact hQ _ _ _ _ dX11_moves_67 hw
    · have hf := (if_neg cn3).symm.trans hf
      refine lv_bipush (v := (-2)) hx hb dX11_moves_18 (by decide) ?_
      obtain ⟨rfl, rfl⟩ := pr2_some hf
      exact hQ _ _ _ _ dX11_moves_20 hw
  · have hf := (if_neg cn2).symm.trans hf
    refine lv_iconst (v := (-1)) hx hb dX11_moves_8 (by decide) ?_
    obtain ⟨rfl, rfl⟩ := pr2_some hf
    exact hQ _ _ _ _ dX11_moves_9 hw
def xf_X_refusalOfRises (N : Nat) (S : xS) (a1 : Int32) : Option (Int32) := (bd1 (xf_X_refusalOfSheet N S a1) fun v1 => (if v1 = 0 then (if ok a1 4 then (if (S.1 5 a1.toNatClampNeg) = (S.1 16 0) then some 0 else some (-2)) else none) else some v1))
set_option maxRecDepth 100000 in
theorem cx_X_refusalOfRises (l : Launch) (N : Nat) (S : xS) (a1 : Int32) (res : Int32) (hf : xf_X_refusalOfRises N S a1 = some res) : xMi l yX11_refusalOfRises cX11_refusalOfRises 3 .int 4 (fun g => [.ref (xr g 0), .int a1]) S res S := by
  refine xMi_of (own := RX11) (by decide) rfl rfl (fun g => Nat.le_of_ble_eq_true rfl) ?_
  intro p e R s m args below meth c Q g A H0 H locs ls hc hR hml hw hl hQ
  have hl : lv_has ls 3 [(0, .ref (xr g 0)), (1, .int a1)] := hl
  have hx := hc.1
  have hb := hc.2.1
  unfold xf_X_refusalOfRises at hf
  refine lv_aload_n hx hb dX11_refusalOfRises_0 rfl (lv_at hl 0 rfl) ?_
  refine lv_iload_n hx hb dX11_refusalOfRises_1 rfl (lv_at hl 1 rfl) ?_
  obtain ⟨v1, hcall, hf⟩ := bd1_some hf
  refine x_cvi (As := [.int a1]) (rest := []) hc hw hR (hml.trans hl.1.symm) (cx_X_refusalOfSheet l N S a1 v1 hcall) xq_11_X_refusalOfSheet (x_recv_this hw) (by decide) rfl rfl rfl (Nat.le_of_ble_eq_true rfl) dX11_refusalOfRises_2 (fun H locs hw => ?_) ⟨Nat.zero_le _, Nat.zero_le _⟩
  refine lv_istore_n (lv' := [(2, .int v1), (0, .ref (xr g 0)), (1, .int a1)]) hx hb dX11_refusalOfRises_5 rfl hl (by decide) rfl (fun ls hl => ?_)
  refine lv_iload_n hx hb dX11_refusalOfRises_6 rfl (lv_at hl 0 rfl) ?_
  refine lv_if_eq (tgt := 12) hx hb dX11_refusalOfRises_7 (by decide) (fun cn3 => ?_) (fun cn3 => ?_)
  · have hf := (if_pos cn3).symm.trans hf
    refine lv_aload_n hx hb dX11_refusalOfRises_12 rfl (lv_at hl 1 rfl) ?_
    refine x_g_this_sheetSizes hc hw fl_11_59 dX11_refusalOfRises_13 ?_
    refine lv_iload_n hx hb dX11_refusalOfRises_16 rfl (lv_at hl 2 rfl) ?_
    obtain ⟨hi2, hf⟩ := gd_some hf
    refine x_l_this_sheetSizes hc hw (ok_in hi2) dX11_refusalOfRises_17 ?_
    refine lv_aload_n hx hb dX11_refusalOfRises_18 rfl (lv_at hl 1 rfl) ?_
    refine x_g_this_hall hc hw fl_11_10 dX11_refusalOfRises_19 ?_
    refine x_g_hall_rowCount hc hw fl_11_113 dX11_refusalOfRises_22 ?_
    refine lv_icmp_ne (tgt := 32) hx hb dX11_refusalOfRises_25 (by decide) (fun cn4 => ?_) (fun cn4 => ?_)
    · have hf := (if_neg cn4).symm.trans hf
      refine lv_bipush (v := (-2)) hx hb dX11_refusalOfRises_32 (by decide) ?_
      obtain rfl := Option.some.inj hf
      exact hQ _ _ _ _ dX11_refusalOfRises_34 hw
    · have hf := (if_pos cn4).symm.trans hf
      refine lv_iconst (v := 0) hx hb dX11_refusalOfRises_28 (by decide) ?_
      refine lv_goto (tgt := 34) hx hb dX11_refusalOfRises_29 (by decide) ?_
      obtain rfl := Option.some.inj hf
      exact hQ _ _ _ _ dX11_refusalOfRises_34 hw
  · have hf := (if_neg cn3).symm.trans hf
    refine lv_iload_n hx hb dX11_refusalOfRises_10 rfl (lv_at hl 0 rfl) ?_
    obtain rfl := Option.some.inj hf
    exact hQ _ _ _ _ dX11_refusalOfRises_11 hw
def xf_X_image (N : Nat) (S : xS) : Option (Int32 × xS) := (bd1 (xf_I_keep N S (S.1 1 0)) fun S1 => some (S1.1 16 0, S1))
set_option maxRecDepth 100000 in
theorem cx_X_image (l : Launch) (N : Nat) (S : xS) (res : Int32) (S1 : xS) (hf : xf_X_image N S = some (res, S1)) : xMi l yX11_image cX11_image 1 .int 4 (fun g => [.ref (xr g 0)]) S res S1 := by
  refine xMi_of (own := RX11) (by decide) rfl rfl (fun g => Nat.le_of_ble_eq_true rfl) ?_
  intro p e R s m args below meth c Q g A H0 H locs ls hc hR hml hw hl hQ
  have hl : lv_has ls 1 [(0, .ref (xr g 0))] := hl
  have hx := hc.1
  have hb := hc.2.1
  unfold xf_X_image at hf
  refine lv_aload_n hx hb dX11_image_0 rfl (lv_at hl 0 rfl) ?_
  refine x_g_this_kept hc hw fl_11_19 dX11_image_1 ?_
  refine lv_aload_n hx hb dX11_image_4 rfl (lv_at hl 0 rfl) ?_
  refine x_g_this_hall hc hw fl_11_10 dX11_image_5 ?_
  refine lv_aload_n hx hb dX11_image_8 rfl (lv_at hl 0 rfl) ?_
  refine x_g_this_lawNumber hc hw fl_11_44 dX11_image_9 ?_
  obtain ⟨S1, hcall, hf⟩ := bd1_some hf
  refine x_cvv (As := [.ref (xr g 1), .int (S.1 1 0)]) (rest := []) hc hw hR (hml.trans hl.1.symm) (cx_I_keep l N S (S.1 1 0) S1 hcall) xq_11_I_keep (x_recv_image hw) (by decide) rfl rfl rfl (Nat.le_of_ble_eq_true rfl) dX11_image_12 (fun H locs hw => ?_) ⟨Nat.zero_le _, Nat.zero_le _⟩
  refine lv_aload_n hx hb dX11_image_15 rfl (lv_at hl 0 rfl) ?_
  refine x_g_this_hall hc hw fl_11_10 dX11_image_16 ?_
  refine x_g_hall_rowCount hc hw fl_11_113 dX11_image_19 ?_
  obtain ⟨rfl, rfl⟩ := pr2_some hf
  exact hQ _ _ _ _ dX11_image_22 hw
def xf_X_cell (N : Nat) (S : xS) (a1 : Int32) (a2 : Int32) (a3 : Int32) : Option (Int32 × xS) := (bd1 (xf_X_refusalOfSheet N S a1) fun v1 => (if v1 = 0 then (if a2 < 0 then some ((-12), S) else (if ok a1 4 then (if a2 < (S.1 5 a1.toNatClampNeg) then (if (S.1 4 a1.toNatClampNeg) = 0 then (if ok a2 60 then some (1, xs S (70 + a1.toNatClampNeg) a2.toNatClampNeg a3.toInt8.toInt32) else none) else (if (S.1 4 a1.toNatClampNeg) = 1 then (if ok a2 60 then some (1, xs S (70 + a1.toNatClampNeg) a2.toNatClampNeg a3.toInt16.toInt32) else none) else (if ok a2 60 then some (1, xs S (70 + a1.toNatClampNeg) a2.toNatClampNeg a3) else none))) else some ((-12), S)) else none)) else some (v1, S)))
set_option maxRecDepth 100000 in
theorem cx_X_cell (l : Launch) (N : Nat) (S : xS) (a1 : Int32) (a2 : Int32) (a3 : Int32) (res : Int32) (S1 : xS) (hf : xf_X_cell N S a1 a2 a3 = some (res, S1)) : xMi l yX11_cell cX11_cell 5 .int 4 (fun g => [.ref (xr g 0), .int a1, .int a2, .int a3]) S res S1 := by
  refine xMi_of (own := RX11) (by decide) rfl rfl (fun g => Nat.le_of_ble_eq_true rfl) ?_
  intro p e R s m args below meth c Q g A H0 H locs ls hc hR hml hw hl hQ
  have hl : lv_has ls 5 [(0, .ref (xr g 0)), (1, .int a1), (2, .int a2), (3, .int a3)] := hl
  have hx := hc.1
  have hb := hc.2.1
  unfold xf_X_cell at hf
  refine lv_aload_n hx hb dX11_cell_0 rfl (lv_at hl 0 rfl) ?_
  refine lv_iload_n hx hb dX11_cell_1 rfl (lv_at hl 1 rfl) ?_
  obtain ⟨v1, hcall, hf⟩ := bd1_some hf
  refine x_cvi (As := [.int a1]) (rest := []) hc hw hR (hml.trans hl.1.symm) (cx_X_refusalOfSheet l N S a1 v1 hcall) xq_11_X_refusalOfSheet (x_recv_this hw) (by decide) rfl rfl rfl (Nat.le_of_ble_eq_true rfl) dX11_cell_2 (fun H locs hw => ?_) ⟨Nat.zero_le _, Nat.zero_le _⟩
  refine lv_istore (lv' := [(4, .int v1), (0, .ref (xr g 0)), (1, .int a1), (2, .int a2), (3, .int a3)]) hx hb dX11_cell_5 hl (by decide) rfl (fun ls hl => ?_)
  refine lv_iload hx hb dX11_cell_7 (lv_at hl 0 rfl) ?_
  refine lv_if_eq (tgt := 15) hx hb dX11_cell_9 (by decide) (fun cn6 => ?_) (fun cn6 => ?_)
  · have hf := (if_pos cn6).symm.trans hf
    refine lv_iload_n hx hb dX11_cell_15 rfl (lv_at hl 3 rfl) ?_
    refine lv_if_lt (tgt := 29) hx hb dX11_cell_16 (by decide) (fun cn7 => ?_) (fun cn7 => ?_)
    · have hf := (if_pos cn7).symm.trans hf
      refine lv_bipush (v := (-12)) hx hb dX11_cell_29 (by decide) ?_
      obtain ⟨rfl, rfl⟩ := pr2_some hf
      exact hQ _ _ _ _ dX11_cell_31 hw
    · have hf := (if_neg cn7).symm.trans hf
      refine lv_iload_n hx hb dX11_cell_19 rfl (lv_at hl 3 rfl) ?_
      refine lv_aload_n hx hb dX11_cell_20 rfl (lv_at hl 1 rfl) ?_
      refine x_g_this_sheetSizes hc hw fl_11_59 dX11_cell_21 ?_
      refine lv_iload_n hx hb dX11_cell_24 rfl (lv_at hl 2 rfl) ?_
      obtain ⟨hi2, hf⟩ := gd_some hf
      refine x_l_this_sheetSizes hc hw (ok_in hi2) dX11_cell_25 ?_
      refine lv_icmp_lt (tgt := 32) hx hb dX11_cell_26 (by decide) (fun cn8 => ?_) (fun cn8 => ?_)
      · have hf := (if_pos cn8).symm.trans hf
        refine lv_aload_n hx hb dX11_cell_32 rfl (lv_at hl 1 rfl) ?_
        refine x_g_this_cells hc hw fl_11_52 dX11_cell_33 ?_
        refine lv_iload_n hx hb dX11_cell_36 rfl (lv_at hl 2 rfl) ?_
        refine x_l_cells hc hw (ok_in hi2) (ok_nat hi2) dX11_cell_37 ?_
        refine lv_iload_n hx hb dX11_cell_38 rfl (lv_at hl 3 rfl) ?_
        refine lv_aload_n hx hb dX11_cell_39 rfl (lv_at hl 1 rfl) ?_
        refine x_g_this_sheetSorts hc hw fl_11_55 dX11_cell_40 ?_
        refine lv_iload_n hx hb dX11_cell_43 rfl (lv_at hl 2 rfl) ?_
        refine x_l_this_sheetSorts hc hw (ok_in hi2) dX11_cell_44 ?_
        refine lv_if_ne (tgt := 53) hx hb dX11_cell_45 (by decide) (fun cn9 => ?_) (fun cn9 => ?_)
        · have hf := (if_neg cn9).symm.trans hf
          refine lv_aload_n hx hb dX11_cell_53 rfl (lv_at hl 1 rfl) ?_
          refine x_g_this_sheetSorts hc hw fl_11_55 dX11_cell_54 ?_
          refine lv_iload_n hx hb dX11_cell_57 rfl (lv_at hl 2 rfl) ?_
          refine x_l_this_sheetSorts hc hw (ok_in hi2) dX11_cell_58 ?_
          refine lv_iconst (v := 1) hx hb dX11_cell_59 (by decide) ?_
          refine lv_icmp_ne (tgt := 68) hx hb dX11_cell_60 (by decide) (fun cn10 => ?_) (fun cn10 => ?_)
          · have hf := (if_neg cn10).symm.trans hf
            refine lv_iload_n hx hb dX11_cell_68 rfl (lv_at hl 4 rfl) ?_
            obtain ⟨hi3, hf⟩ := gd_some hf
            refine x_s_sheet hc hw (ok_nat hi2) (ok_in hi3) dX11_cell_69 (fun H locs hw => ?_)
            refine lv_iconst (v := 1) hx hb dX11_cell_70 (by decide) ?_
            obtain ⟨rfl, rfl⟩ := pr2_some hf
            exact hQ _ _ _ _ dX11_cell_71 hw
          · have hf := (if_pos cn10).symm.trans hf
            refine lv_iload_n hx hb dX11_cell_63 rfl (lv_at hl 4 rfl) ?_
            refine lv_i2s hx hb dX11_cell_64 rfl ?_
            refine lv_goto (tgt := 69) hx hb dX11_cell_65 (by decide) ?_
            obtain ⟨hi4, hf⟩ := gd_some hf
            refine x_s_sheet hc hw (ok_nat hi2) (ok_in hi4) dX11_cell_69 (fun H locs hw => ?_)
            refine lv_iconst (v := 1) hx hb dX11_cell_70 (by decide) ?_
            obtain ⟨rfl, rfl⟩ := pr2_some hf
            exact hQ _ _ _ _ dX11_cell_71 hw
        · have hf := (if_pos cn9).symm.trans hf
          refine lv_iload_n hx hb dX11_cell_48 rfl (lv_at hl 4 rfl) ?_
          refine lv_i2b hx hb dX11_cell_49 rfl ?_
          refine lv_goto (tgt := 69) hx hb dX11_cell_50 (by decide) ?_
          obtain ⟨hi5, hf⟩ := gd_some hf
          refine x_s_sheet hc hw (ok_nat hi2) (ok_in hi5) dX11_cell_69 (fun H locs hw => ?_)
          refine lv_iconst (v := 1) hx hb dX11_cell_70 (by decide) ?_
          obtain ⟨rfl, rfl⟩ := pr2_some hf
          exact hQ _ _ _ _ dX11_cell_71 hw
      · have hf := (if_neg cn8).symm.trans hf
        refine lv_bipush (v := (-12)) hx hb dX11_cell_29 (by decide) ?_
        obtain ⟨rfl, rfl⟩ := pr2_some hf
        exact hQ _ _ _ _ dX11_cell_31 hw
  · have hf := (if_neg cn6).symm.trans hf
    refine lv_iload hx hb dX11_cell_12 (lv_at hl 0 rfl) ?_
    obtain ⟨rfl, rfl⟩ := pr2_some hf
    exact hQ _ _ _ _ dX11_cell_14 hw
def xf_H_layLine (N : Nat) (S : xS) (a1 : Int32) (a2 : Int32) (a3 : Int32) : Option (xS) := (if a1.toNatClampNeg < S.2.2.1 then (bd1 (xf_W_placeOf N S a1 a2) fun v2 => (bd1 (xf_H_eyesOf N S a1 a2) fun v3 => (if ok a3 6 then some (xf_L_lay S (S.1 61 a1.toNatClampNeg) v2 v3 (S.1 11 a3.toNatClampNeg) ((S.1 12 a3.toNatClampNeg) + (S.1 21 0))) else none))) else none)
set_option maxRecDepth 100000 in
theorem cx_H_layLine (l : Launch) (N : Nat) (S : xS) (a1 : Int32) (a2 : Int32) (a3 : Int32) (S1 : xS) (hf : xf_H_layLine N S a1 a2 a3 = some S1) : xMv l yX1_layLine cX1_layLine 4 4 (fun g => [.ref (xr g 1), .ref (xr g (100 + 2 * a1.toNatClampNeg)), .int a2, .int a3]) S S1 := by
  refine xMv_of (own := RX1) (by decide) rfl (fun g => Nat.le_of_ble_eq_true rfl) ?_
  intro p e R s m args below meth c Q g A H0 H locs ls hc hR hml hw hl hQ
  have hl : lv_has ls 4 [(0, .ref (xr g 1)), (1, .ref (xr g (100 + 2 * a1.toNatClampNeg))), (2, .int a2), (3, .int a3)] := hl
  have hx := hc.1
  have hb := hc.2.1
  unfold xf_H_layLine at hf
  refine lv_aload_n hx hb dX1_layLine_0 rfl (lv_at hl 0 rfl) ?_
  refine x_g_hall_line hc hw fl_1_75 dX1_layLine_1 ?_
  refine lv_aload_n hx hb dX1_layLine_4 rfl (lv_at hl 1 rfl) ?_
  obtain ⟨hr1, hf⟩ := gd_some hf
  refine x_rg_far hc hw hr1 fl_1_106 dX1_layLine_5 ?_
  refine lv_aload_n hx hb dX1_layLine_8 rfl (lv_at hl 1 rfl) ?_
  refine lv_iload_n hx hb dX1_layLine_9 rfl (lv_at hl 2 rfl) ?_
  obtain ⟨v2, hcall, hf⟩ := bd1_some hf
  refine x_cri (As := [.int a2]) (rest := [.int (S.1 61 a1.toNatClampNeg), .ref (xr g 4)]) hc hw hR (hml.trans hl.1.symm) (cx_W_placeOf l N S a1 a2 v2 hcall) xq_1_W_placeOf hr1 (by decide) rfl rfl rfl (Nat.le_of_ble_eq_true rfl) dX1_layLine_10 (fun H locs hw => ?_) ⟨Nat.zero_le _, Nat.zero_le _⟩
  refine lv_aload_n hx hb dX1_layLine_13 rfl (lv_at hl 0 rfl) ?_
  refine lv_aload_n hx hb dX1_layLine_14 rfl (lv_at hl 1 rfl) ?_
  refine lv_iload_n hx hb dX1_layLine_15 rfl (lv_at hl 2 rfl) ?_
  obtain ⟨v3, hcall, hf⟩ := bd1_some hf
  refine x_cvi (As := [.ref (xr g (100 + 2 * a1.toNatClampNeg)), .int a2]) (rest := [.int v2, .int (S.1 61 a1.toNatClampNeg), .ref (xr g 4)]) hc hw hR (hml.trans hl.1.symm) (cx_H_eyesOf l N S a1 a2 v3 hcall) xq_1_H_eyesOf (x_recv_hall hw) (by decide) rfl rfl rfl (Nat.le_of_ble_eq_true rfl) dX1_layLine_16 (fun H locs hw => ?_) ⟨Nat.zero_le _, Nat.zero_le _⟩
  refine lv_aload_n hx hb dX1_layLine_19 rfl (lv_at hl 0 rfl) ?_
  refine x_g_hall_pointPlaces hc hw fl_1_27 dX1_layLine_20 ?_
  refine lv_iload_n hx hb dX1_layLine_23 rfl (lv_at hl 3 rfl) ?_
  obtain ⟨hi4, hf⟩ := gd_some hf
  refine x_l_hall_pointPlaces hc hw (ok_in hi4) dX1_layLine_24 ?_
  refine lv_aload_n hx hb dX1_layLine_25 rfl (lv_at hl 0 rfl) ?_
  refine x_g_hall_pointHighs hc hw fl_1_30 dX1_layLine_26 ?_
  refine lv_iload_n hx hb dX1_layLine_29 rfl (lv_at hl 3 rfl) ?_
  refine x_l_hall_pointHighs hc hw (ok_in hi4) dX1_layLine_30 ?_
  refine lv_aload_n hx hb dX1_layLine_31 rfl (lv_at hl 0 rfl) ?_
  refine x_g_hall_stageLift hc hw fl_1_59 dX1_layLine_32 ?_
  refine lv_iadd hx hb dX1_layLine_35 ?_
  refine x_cvv (As := [.int (S.1 61 a1.toNatClampNeg), .int v2, .int v3, .int (S.1 11 a3.toNatClampNeg), .int ((S.1 12 a3.toNatClampNeg) + (S.1 21 0))]) (rest := []) hc hw hR (hml.trans hl.1.symm) (cx_L_lay l S (S.1 61 a1.toNatClampNeg) v2 v3 (S.1 11 a3.toNatClampNeg) ((S.1 12 a3.toNatClampNeg) + (S.1 21 0)) _ rfl) xq_1_L_lay (x_recv_line hw) (by decide) rfl rfl rfl (Nat.le_of_ble_eq_true rfl) dX1_layLine_36 (fun H locs hw => ?_) ⟨Nat.zero_le _, Nat.zero_le _⟩
  obtain rfl := Option.some.inj hf
  exact hQ _ _ _ _ dX1_layLine_39 hw
def xf_H_hidingSeat_L37 (N : Nat) (c3 : Int32) (c4 : Int32) : Nat → xS → Int32 → Int32 → Option ((Int32) ⊕ (Unit))
  | 0, _, _, _ => none
  | n + 1, S7, v5, v6 => (if c3.toNatClampNeg < S7.2.2.1 then (if (S7.1 56 c3.toNatClampNeg) ≤ v6 then some (.inr ()) else (if v5 < (-c4) then some (.inr ()) else (bm0 (if c4 < v5 then some (.inr ()) else (bd1 (xf_H_topOf N S7 c3 v6) fun v9 => (if (xf_L_isTouchedBy S7 (S7.1 61 c3.toNatClampNeg) v9) = true then some (.inl (some (.inl v6))) else some (.inr ())))) fun _ => xf_H_hidingSeat_L37 N c3 c4 n S7 (v5 - (2 * (S7.1 49 0))) (v6 + 1)))) else none)
set_option maxRecDepth 100000 in
theorem wx_H_hidingSeat_L37 {p : Program} {l : Launch} {e : Env} {R : Room} {s : State} {m : MethodId} {args : Array Value} {below : List Frame} {meth : Method} {c : Code} {Q : State → Prop} {g : xG} {A : Nat → Prop} {H0 : Heap} (hc : qC RX1 cX1_hidingSeat p s m args c) (hR : qRoom R 4) (hml : c.maxLocals = 5) (N : Nat) (c3 : Int32) (c4 : Int32) : ∀ (n : Nat) (S7 : xS) (v5 : Int32) (v6 : Int32) (X : (Int32) ⊕ (Unit)) (H : Heap) (locs : List Loc) (ls : Array Slot), xf_H_hidingSeat_L37 N c3 c4 n S7 v5 v6 = some X → xI g A H0 s S7 H locs → lv_has ls 5 [(0, .ref (xr g 1)), (1, .ref (xr g (100 + 2 * c3.toNatClampNeg))), (2, .int c4), (3, .int v5), (4, .int v6)] → (∀ (_ : Unit), X = .inr () → ∀ (H : Heap) (locs : List Loc) (ls : Array Slot), xI g A H0 s S7 H locs → lv_has ls 5 [] → W p l e R s m args below meth c H locs 0 0 Q (F0 m 99 ls [])) → (∀ (r : Int32), X = .inl r → xQi p l e R s m args below meth c cX1_hidingSeat Q g A H0 r S7) → W p l e R s m args below meth c H locs 0 0 Q (F0 m 37 ls []) := by
  have hx := hc.1
  have hb := hc.2.1
  intro n
  induction n with
  | zero => intro _ _ _ X H locs ls hf; exact nomatch (show none = some X from hf)
  | succ n ih =>
    intro S7 v5 v6 X H locs ls hf hw hl kx kr
    rw [xf_H_hidingSeat_L37] at hf
    refine lv_iload hx hb dX1_hidingSeat_37 (lv_at hl 4 rfl) ?_
    refine lv_aload_n hx hb dX1_hidingSeat_39 rfl (lv_at hl 1 rfl) ?_
    obtain ⟨hr8, hf⟩ := gd_some hf
    refine x_rg_seats hc hw hr8 fl_1_86 dX1_hidingSeat_40 ?_
    refine lv_icmp_ge (tgt := 99) hx hb dX1_hidingSeat_43 (by decide) (fun cn11 => ?_) (fun cn11 => ?_)
    · have hf := (if_pos cn11).symm.trans hf
      obtain rfl := Option.some.inj hf
      exact kx () rfl _ _ _ hw (lv_sub hl [] rfl)
    · have hf := (if_neg cn11).symm.trans hf
      refine lv_iload_n hx hb dX1_hidingSeat_46 rfl (lv_at hl 3 rfl) ?_
      refine lv_iload_n hx hb dX1_hidingSeat_47 rfl (lv_at hl 2 rfl) ?_
      refine lv_ineg hx hb dX1_hidingSeat_48 ?_
      refine lv_icmp_lt (tgt := 99) hx hb dX1_hidingSeat_49 (by decide) (fun cn12 => ?_) (fun cn12 => ?_)
      · have hf := (if_pos cn12).symm.trans hf
        obtain rfl := Option.some.inj hf
        exact kx () rfl _ _ _ hw (lv_sub hl [] rfl)
      · have hf := (if_neg cn12).symm.trans hf
        refine lv_iload_n hx hb dX1_hidingSeat_52 rfl (lv_at hl 3 rfl) ?_
        refine lv_iload_n hx hb dX1_hidingSeat_53 rfl (lv_at hl 2 rfl) ?_
        obtain ⟨Y, hX13, hf⟩ := bm0_some hf
        have kJ14 : Y = .inr () → ∀ (H : Heap) (locs : List Loc) (ls : Array Slot), xI g A H0 s S7 H locs → lv_has ls 5 [(0, .ref (xr g 1)), (1, .ref (xr g (100 + 2 * c3.toNatClampNeg))), (2, .int c4), (3, .int v5), (4, .int v6)] → W p l e R s m args below meth c H locs 0 0 Q (F0 m 81 ls []) := by
          intro  hY H locs ls hw hl
          subst hY
          have hf := bc0_r hf
          refine lv_iload_n hx hb dX1_hidingSeat_81 rfl (lv_at hl 3 rfl) ?_
          refine lv_iconst (v := 2) hx hb dX1_hidingSeat_82 (by decide) ?_
          refine lv_aload_n hx hb dX1_hidingSeat_83 rfl (lv_at hl 0 rfl) ?_
          refine x_g_hall_line hc hw fl_1_75 dX1_hidingSeat_84 ?_
          refine x_g_line_far hc hw fl_1_138 dX1_hidingSeat_87 ?_
          refine lv_imul hx hb dX1_hidingSeat_90 ?_
          refine lv_isub hx hb dX1_hidingSeat_91 ?_
          refine lv_istore_n (lv' := [(3, .int (v5 - (2 * (S7.1 49 0)))), (0, .ref (xr g 1)), (1, .ref (xr g (100 + 2 * c3.toNatClampNeg))), (2, .int c4), (4, .int v6)]) hx hb dX1_hidingSeat_92 rfl hl (by decide) rfl (fun ls hl => ?_)
          refine lv_iinc (lv' := [(4, .int (v6 + 1)), (3, .int (v5 - (2 * (S7.1 49 0)))), (0, .ref (xr g 1)), (1, .ref (xr g (100 + 2 * c3.toNatClampNeg))), (2, .int c4)]) hx hb dX1_hidingSeat_93 hl (k := 4) rfl rfl (by decide) rfl (fun ls hl => ?_)
          refine lv_goto (tgt := 37) hx hb dX1_hidingSeat_96 (by decide) ?_
          exact ih _ _ _ X _ _ _ hf hw (lv_sub hl [2, 3, 4, 1, 0] rfl) kx kr
        refine lv_icmp_gt (tgt := 81) hx hb dX1_hidingSeat_54 (by decide) (fun cn15 => ?_) (fun cn15 => ?_)
        · have hX13 := (if_pos cn15).symm.trans hX13
          exact kJ14 (Option.some.inj hX13).symm _ _ _ hw (lv_sub hl [0, 1, 2, 3, 4] rfl)
        · have hX13 := (if_neg cn15).symm.trans hX13
          refine lv_aload_n hx hb dX1_hidingSeat_57 rfl (lv_at hl 0 rfl) ?_
          refine x_g_hall_line hc hw fl_1_75 dX1_hidingSeat_58 ?_
          refine lv_aload_n hx hb dX1_hidingSeat_61 rfl (lv_at hl 1 rfl) ?_
          refine x_rg_far hc hw hr8 fl_1_106 dX1_hidingSeat_62 ?_
          refine lv_aload_n hx hb dX1_hidingSeat_65 rfl (lv_at hl 0 rfl) ?_
          refine lv_aload_n hx hb dX1_hidingSeat_66 rfl (lv_at hl 1 rfl) ?_
          refine lv_iload hx hb dX1_hidingSeat_67 (lv_at hl 4 rfl) ?_
          obtain ⟨v9, hcall, hX13⟩ := bd1_some hX13
          refine x_cvi (As := [.ref (xr g (100 + 2 * c3.toNatClampNeg)), .int v6]) (rest := [.int (S7.1 61 c3.toNatClampNeg), .ref (xr g 4)]) hc hw hR (hml.trans hl.1.symm) (cx_H_topOf l N S7 c3 v6 v9 hcall) xq_1_H_topOf (x_recv_hall hw) (by decide) rfl rfl rfl (Nat.le_of_ble_eq_true rfl) dX1_hidingSeat_69 (fun H locs hw => ?_) ⟨Nat.zero_le _, Nat.zero_le _⟩
          refine x_cvi (As := [.int (S7.1 61 c3.toNatClampNeg), .int v9]) (rest := []) hc hw hR (hml.trans hl.1.symm) (cx_L_isTouchedBy l S7 (S7.1 61 c3.toNatClampNeg) v9 _ rfl) xq_1_L_isTouchedBy (x_recv_line hw) (by decide) rfl rfl rfl (Nat.le_of_ble_eq_true rfl) dX1_hidingSeat_72 (fun H locs hw => ?_) ⟨Nat.zero_le _, Nat.zero_le _⟩
          refine lv_if_eqb (tgt := 81) hx hb dX1_hidingSeat_75 (by decide) (fun cn16 => ?_) (fun cn16 => ?_)
          · have hX13 := (if_neg cn16).symm.trans hX13
            exact kJ14 (Option.some.inj hX13).symm _ _ _ hw (lv_sub hl [0, 1, 2, 3, 4] rfl)
          · have hX13 := (if_pos cn16).symm.trans hX13
            refine lv_iload hx hb dX1_hidingSeat_78 (lv_at hl 4 rfl) ?_
            obtain rfl := Option.some.inj hX13
            have hf := bc0_l hf
            obtain rfl := Option.some.inj hf
            exact kr _  rfl _ _ _ _ dX1_hidingSeat_80 hw
def xf_H_hidingSeat (N : Nat) (S : xS) (a1 : Int32) : Option (Int32) := (if a1.toNatClampNeg < S.2.2.1 then (if (S.1 63 a1.toNatClampNeg) = 0 then some (-1) else (bd1 (xf_W_placeOf N S a1 0) fun v2 => (br0 (xf_H_hidingSeat_L37 N a1 (S.1 49 0) N S (xf_L_besides S (S.1 61 a1.toNatClampNeg) v2) 0) (Option.some) fun _ => some (-1)))) else none)
set_option maxRecDepth 100000 in
theorem cx_H_hidingSeat (l : Launch) (N : Nat) (S : xS) (a1 : Int32) (res : Int32) (hf : xf_H_hidingSeat N S a1 = some res) : xMi l yX1_hidingSeat cX1_hidingSeat 5 .int 4 (fun g => [.ref (xr g 1), .ref (xr g (100 + 2 * a1.toNatClampNeg))]) S res S := by
  refine xMi_of (own := RX1) (by decide) rfl rfl (fun g => Nat.le_of_ble_eq_true rfl) ?_
  intro p e R s m args below meth c Q g A H0 H locs ls hc hR hml hw hl hQ
  have hl : lv_has ls 5 [(0, .ref (xr g 1)), (1, .ref (xr g (100 + 2 * a1.toNatClampNeg)))] := hl
  have hx := hc.1
  have hb := hc.2.1
  unfold xf_H_hidingSeat at hf
  refine lv_aload_n hx hb dX1_hidingSeat_0 rfl (lv_at hl 1 rfl) ?_
  obtain ⟨hr1, hf⟩ := gd_some hf
  refine x_rg_among hc hw hr1 fl_1_123 dX1_hidingSeat_1 ?_
  refine lv_if_ne (tgt := 9) hx hb dX1_hidingSeat_4 (by decide) (fun cn10 => ?_) (fun cn10 => ?_)
  · have hf := (if_neg cn10).symm.trans hf
    refine lv_aload_n hx hb dX1_hidingSeat_9 rfl (lv_at hl 0 rfl) ?_
    refine x_g_hall_line hc hw fl_1_75 dX1_hidingSeat_10 ?_
    refine x_g_line_far hc hw fl_1_138 dX1_hidingSeat_13 ?_
    refine lv_istore_n (lv' := [(2, .int (S.1 49 0)), (0, .ref (xr g 1)), (1, .ref (xr g (100 + 2 * a1.toNatClampNeg)))]) hx hb dX1_hidingSeat_16 rfl hl (by decide) rfl (fun ls hl => ?_)
    refine lv_aload_n hx hb dX1_hidingSeat_17 rfl (lv_at hl 1 rfl) ?_
    refine x_g_hall_line hc hw fl_1_75 dX1_hidingSeat_18 ?_
    refine lv_aload_n hx hb dX1_hidingSeat_21 rfl (lv_at hl 2 rfl) ?_
    refine x_rg_far hc hw hr1 fl_1_106 dX1_hidingSeat_22 ?_
    refine lv_aload_n hx hb dX1_hidingSeat_25 rfl (lv_at hl 2 rfl) ?_
    refine lv_iconst (v := 0) hx hb dX1_hidingSeat_26 (by decide) ?_
    obtain ⟨v2, hcall, hf⟩ := bd1_some hf
    refine x_cri (As := [.int 0]) (rest := [.int (S.1 61 a1.toNatClampNeg), .ref (xr g 4)]) hc hw hR (hml.trans hl.1.symm) (cx_W_placeOf l N S a1 0 v2 hcall) xq_1_W_placeOf hr1 (by decide) rfl rfl rfl (Nat.le_of_ble_eq_true rfl) dX1_hidingSeat_27 (fun H locs hw => ?_) ⟨Nat.zero_le _, Nat.zero_le _⟩
    refine x_cvi (As := [.int (S.1 61 a1.toNatClampNeg), .int v2]) (rest := []) hc hw hR (hml.trans hl.1.symm) (cx_L_besides l S (S.1 61 a1.toNatClampNeg) v2 _ rfl) xq_1_L_besides (x_recv_line hw) (by decide) rfl rfl rfl (Nat.le_of_ble_eq_true rfl) dX1_hidingSeat_30 (fun H locs hw => ?_) ⟨Nat.zero_le _, Nat.zero_le _⟩
    refine lv_istore_n (lv' := [(3, .int (xf_L_besides S (S.1 61 a1.toNatClampNeg) v2)), (2, .int (S.1 49 0)), (0, .ref (xr g 1)), (1, .ref (xr g (100 + 2 * a1.toNatClampNeg)))]) hx hb dX1_hidingSeat_33 rfl hl (by decide) rfl (fun ls hl => ?_)
    refine lv_iconst (v := 0) hx hb dX1_hidingSeat_34 (by decide) ?_
    refine lv_istore (lv' := [(4, .int 0), (3, .int (xf_L_besides S (S.1 61 a1.toNatClampNeg) v2)), (2, .int (S.1 49 0)), (0, .ref (xr g 1)), (1, .ref (xr g (100 + 2 * a1.toNatClampNeg)))]) hx hb dX1_hidingSeat_35 hl (by decide) rfl (fun ls hl => ?_)
    rcases br0_some hf with ⟨q, hL, hf⟩ | ⟨hL, hf⟩
    · refine wx_H_hidingSeat_L37 hc hR hml N a1 (S.1 49 0) N _ _ _ _ _ _ _ hL hw (lv_sub hl [3, 4, 2, 1, 0] rfl) (fun _  h => nomatch h) ?_
      obtain rfl := Option.some.inj hf
      intro z0 h; cases h; exact hQ
    · refine wx_H_hidingSeat_L37 hc hR hml N a1 (S.1 49 0) N _ _ _ _ _ _ _ hL hw (lv_sub hl [3, 4, 2, 1, 0] rfl) (fun y0 hi => ?_) (fun _  h => nomatch h)
      cases hi
      intro H locs ls hw hl
      refine lv_iconst (v := (-1)) hx hb dX1_hidingSeat_99 (by decide) ?_
      obtain rfl := Option.some.inj hf
      exact hQ _ _ _ _ dX1_hidingSeat_100 hw
  · have hf := (if_pos cn10).symm.trans hf
    refine lv_iconst (v := (-1)) hx hb dX1_hidingSeat_7 (by decide) ?_
    obtain rfl := Option.some.inj hf
    exact hQ _ _ _ _ dX1_hidingSeat_8 hw
