def xf_T_run_L20 (N : Nat) (c4 : Int32) (c5 : Int32) : Nat → xS → Int32 → Int32 → Option (xS)
  | 0, _, _, _ => none
  | n + 1, S8, v6, v7 => (if c4.toNatClampNeg < S8.2.2.2 then (if ok c5 3 then (if (S8.1 (82 + 4 * c4.toNatClampNeg) c5.toNatClampNeg) ≤ v7 then some S8 else (if ok v7 (S8.1 76 c4.toNatClampNeg).toNatClampNeg then (if ok v7 (S8.1 76 c4.toNatClampNeg).toNatClampNeg then (if ((S8.1 (81 + 4 * c4.toNatClampNeg) v7.toNatClampNeg) >>> (14 &&& 31)) = 1 then (if 32 ≤ v6 then xf_T_run_L20 N c4 c5 n S8 v6 (v7 + 1) else (bd1 (if ((S8.1 (81 + 4 * c4.toNatClampNeg) v7.toNatClampNeg) >>> (14 &&& 31)) = 1 then some ((S8.1 (81 + 4 * c4.toNatClampNeg) v7.toNatClampNeg) &&& 16383) else (if ok ((S8.1 (81 + 4 * c4.toNatClampNeg) v7.toNatClampNeg) &&& 16383) 6 then some (S8.1 25 ((S8.1 (81 + 4 * c4.toNatClampNeg) v7.toNatClampNeg) &&& 16383).toNatClampNeg) else none)) fun v14 => (if ok v6 32 then xf_T_run_L20 N c4 c5 n (xs S8 (83 + 4 * c4.toNatClampNeg) v6.toNatClampNeg v14) (v6 + 1) (v7 + 1) else none))) else (if ((S8.1 (81 + 4 * c4.toNatClampNeg) v7.toNatClampNeg) >>> (14 &&& 31)) = 2 then (if 32 ≤ v6 then xf_T_run_L20 N c4 c5 n S8 v6 (v7 + 1) else (bd1 (if ((S8.1 (81 + 4 * c4.toNatClampNeg) v7.toNatClampNeg) >>> (14 &&& 31)) = 1 then some ((S8.1 (81 + 4 * c4.toNatClampNeg) v7.toNatClampNeg) &&& 16383) else (if ok ((S8.1 (81 + 4 * c4.toNatClampNeg) v7.toNatClampNeg) &&& 16383) 6 then some (S8.1 25 ((S8.1 (81 + 4 * c4.toNatClampNeg) v7.toNatClampNeg) &&& 16383).toNatClampNeg) else none)) fun v23 => (if ok v6 32 then xf_T_run_L20 N c4 c5 n (xs S8 (83 + 4 * c4.toNatClampNeg) v6.toNatClampNeg v23) (v6 + 1) (v7 + 1) else none))) else (if ((S8.1 (81 + 4 * c4.toNatClampNeg) v7.toNatClampNeg) >>> (14 &&& 31)) = 5 then (if v6 ≤ 0 then xf_T_run_L20 N c4 c5 n S8 v6 (v7 + 1) else (if ok (v6 - 1) 32 then xf_T_run_L20 N c4 c5 n (xs S8 (83 + 4 * c4.toNatClampNeg) (v6 - 1).toNatClampNeg ((if ((S8.1 (81 + 4 * c4.toNatClampNeg) v7.toNatClampNeg) >>> (14 &&& 31)) = 6 then -(S8.1 (83 + 4 * c4.toNatClampNeg) (v6 - 1).toNatClampNeg) else (if (S8.1 (83 + 4 * c4.toNatClampNeg) (v6 - 1).toNatClampNeg) = 0 then 1 else 0)) : Int32)) v6 (v7 + 1) else none)) else (if ((S8.1 (81 + 4 * c4.toNatClampNeg) v7.toNatClampNeg) >>> (14 &&& 31)) = 6 then (if v6 ≤ 0 then xf_T_run_L20 N c4 c5 n S8 v6 (v7 + 1) else (if ok (v6 - 1) 32 then xf_T_run_L20 N c4 c5 n (xs S8 (83 + 4 * c4.toNatClampNeg) (v6 - 1).toNatClampNeg ((if ((S8.1 (81 + 4 * c4.toNatClampNeg) v7.toNatClampNeg) >>> (14 &&& 31)) = 6 then -(S8.1 (83 + 4 * c4.toNatClampNeg) (v6 - 1).toNatClampNeg) else (if (S8.1 (83 + 4 * c4.toNatClampNeg) (v6 - 1).toNatClampNeg) = 0 then 1 else 0)) : Int32)) v6 (v7 + 1) else none)) else (if v6 ≤ 1 then xf_T_run_L20 N c4 c5 n S8 v6 (v7 + 1) else (if ok ((v6 + (-1)) - 1) 32 then (if ok (v6 + (-1)) 32 then xf_T_run_L20 N c4 c5 n (xs S8 (83 + 4 * c4.toNatClampNeg) ((v6 + (-1)) - 1).toNatClampNeg (xf_T_joined ((S8.1 (81 + 4 * c4.toNatClampNeg) v7.toNatClampNeg) >>> (14 &&& 31)) (S8.1 (83 + 4 * c4.toNatClampNeg) ((v6 + (-1)) - 1).toNatClampNeg) (S8.1 (83 + 4 * c4.toNatClampNeg) (v6 + (-1)).toNatClampNeg))) (v6 + (-1)) (v7 + 1) else none) else none)))))) else none) else none)) else none) else none)
set_option maxRecDepth 100000 in
theorem wx_T_run_L20 {p : Program} {l : Launch} {e : Env} {R : Room} {s : State} {m : MethodId} {args : Array Value} {below : List Frame} {meth : Method} {c : Code} {Q : State → Prop} {g : xG} {A : Nat → Prop} {H0 : Heap} (hc : qC RX10 cX10_run p s m args c) (hR : qRoom R 3) (hml : c.maxLocals = 8) (N : Nat) (c4 : Int32) (c5 : Int32) : ∀ (n : Nat) (S8 : xS) (v6 : Int32) (v7 : Int32) (X : xS) (H : Heap) (locs : List Loc) (ls : Array Slot), xf_T_run_L20 N c4 c5 n S8 v6 v7 = some X → xI g A H0 s S8 H locs → lv_has ls 8 [(0, .ref (xr g (200 + 4 * c4.toNatClampNeg))), (1, .int c5), (2, .ref (xr g 14)), (3, .int v6), (4, .int v7)] → (∀ (H : Heap) (locs : List Loc) (ls : Array Slot), xI g A H0 s X H locs → lv_has ls 8 [(0, .ref (xr g (200 + 4 * c4.toNatClampNeg)))] → W p l e R s m args below meth c H locs 0 0 Q (F0 m 203 ls [])) → W p l e R s m args below meth c H locs 0 0 Q (F0 m 20 ls []) := by
  have hx := hc.1
  have hb := hc.2.1
  intro n
  induction n with
  | zero => intro _ _ _ X H locs ls hf; exact nomatch (show none = some X from hf)
  | succ n ih =>
    intro S8 v6 v7 X H locs ls hf hw hl kx
    rw [xf_T_run_L20] at hf
    refine lv_iload hx hb dX10_run_20 (lv_at hl 4 rfl) ?_
    refine lv_aload_n hx hb dX10_run_22 rfl (lv_at hl 0 rfl) ?_
    obtain ⟨hr9, hf⟩ := gd_some hf
    refine x_tg_ends hc hw hr9 fl_10_16 dX10_run_23 ?_
    refine lv_iload_n hx hb dX10_run_26 rfl (lv_at hl 1 rfl) ?_
    obtain ⟨hi10, hf⟩ := gd_some hf
    refine x_l_ends hc hw hr9 (ok_in hi10) dX10_run_27 ?_
    refine lv_icmp_ge (tgt := 203) hx hb dX10_run_28 (by decide) (fun cn27 => ?_) (fun cn27 => ?_)
    · have hf := (if_pos cn27).symm.trans hf
      obtain rfl := Option.some.inj hf
      exact kx _ _ _ hw (lv_sub hl [0] rfl)
    · have hf := (if_neg cn27).symm.trans hf
      refine lv_aload_n hx hb dX10_run_31 rfl (lv_at hl 0 rfl) ?_
      refine x_tg_steps hc hw hr9 fl_10_13 dX10_run_32 ?_
      refine lv_iload hx hb dX10_run_35 (lv_at hl 4 rfl) ?_
      obtain ⟨hi11, hf⟩ := gd_some hf
      refine x_l_steps hc hw hr9 (ok_in hi11) dX10_run_37 ?_
      refine lv_bipush (v := 14) hx hb dX10_run_38 (by decide) ?_
      refine lv_ishr hx hb dX10_run_40 ?_
      refine lv_istore (lv' := [(5, .int ((S8.1 (81 + 4 * c4.toNatClampNeg) v7.toNatClampNeg) >>> (14 &&& 31))), (0, .ref (xr g (200 + 4 * c4.toNatClampNeg))), (1, .int c5), (2, .ref (xr g 14)), (3, .int v6), (4, .int v7)]) hx hb dX10_run_41 hl (by decide) rfl (fun ls hl => ?_)
      refine lv_aload_n hx hb dX10_run_43 rfl (lv_at hl 1 rfl) ?_
      refine x_tg_steps hc hw hr9 fl_10_13 dX10_run_44 ?_
      refine lv_iload hx hb dX10_run_47 (lv_at hl 5 rfl) ?_
      obtain ⟨hi12, hf⟩ := gd_some hf
      refine x_l_steps hc hw hr9 (ok_in hi12) dX10_run_49 ?_
      refine lv_sipush (v := 16383) hx hb dX10_run_50 (by decide) ?_
      refine lv_iand hx hb dX10_run_53 ?_
      refine lv_istore (lv' := [(6, .int ((S8.1 (81 + 4 * c4.toNatClampNeg) v7.toNatClampNeg) &&& 16383)), (5, .int ((S8.1 (81 + 4 * c4.toNatClampNeg) v7.toNatClampNeg) >>> (14 &&& 31))), (0, .ref (xr g (200 + 4 * c4.toNatClampNeg))), (1, .int c5), (2, .ref (xr g 14)), (3, .int v6), (4, .int v7)]) hx hb dX10_run_54 hl (by decide) rfl (fun ls hl => ?_)
      refine lv_iload hx hb dX10_run_56 (lv_at hl 1 rfl) ?_
      refine lv_iconst (v := 1) hx hb dX10_run_58 (by decide) ?_
      refine lv_icmp_eq (tgt := 68) hx hb dX10_run_59 (by decide) (fun cn28 => ?_) (fun cn28 => ?_)
      · have hf := (if_pos cn28).symm.trans hf
        refine lv_iload_n hx hb dX10_run_68 rfl (lv_at hl 5 rfl) ?_
        refine lv_bipush (v := 32) hx hb dX10_run_69 (by decide) ?_
        refine lv_icmp_ge (tgt := 197) hx hb dX10_run_71 (by decide) (fun cn29 => ?_) (fun cn29 => ?_)
        · have hf := (if_pos cn29).symm.trans hf
          refine lv_iinc (lv' := [(4, .int (v7 + 1)), (6, .int ((S8.1 (81 + 4 * c4.toNatClampNeg) v7.toNatClampNeg) &&& 16383)), (5, .int ((S8.1 (81 + 4 * c4.toNatClampNeg) v7.toNatClampNeg) >>> (14 &&& 31))), (0, .ref (xr g (200 + 4 * c4.toNatClampNeg))), (1, .int c5), (2, .ref (xr g 14)), (3, .int v6)]) hx hb dX10_run_197 hl (k := 6) rfl rfl (by decide) rfl (fun ls hl => ?_)
          refine lv_goto (tgt := 20) hx hb dX10_run_200 (by decide) ?_
          exact ih _ _ _ X _ _ _ hf hw (lv_sub hl [3, 4, 5, 6, 0] rfl) kx
        · have hf := (if_neg cn29).symm.trans hf
          refine lv_aload_n hx hb dX10_run_74 rfl (lv_at hl 2 rfl) ?_
          refine x_tg_pile hc hw hr9 fl_10_9 dX10_run_75 ?_
          refine lv_iload_n hx hb dX10_run_78 rfl (lv_at hl 5 rfl) ?_
          refine lv_iload hx hb dX10_run_79 (lv_at hl 1 rfl) ?_
          refine lv_iconst (v := 1) hx hb dX10_run_81 (by decide) ?_
          obtain ⟨v14, hX30, hf⟩ := bd1_some hf
          have kJ31 : ∀ (H : Heap) (locs : List Loc) (ls : Array Slot), xI g A H0 s S8 H locs → lv_has ls 8 [(0, .ref (xr g (200 + 4 * c4.toNatClampNeg))), (1, .int c5), (2, .ref (xr g 14)), (3, .int v6), (4, .int v7)] → W p l e R s m args below meth c H locs 0 0 Q (F0 m 94 ls [.int v14, .int v6, .ref (xr g (200 + (4 * c4.toNatClampNeg + 3)))]) := by
            intro H locs ls hw hl
            obtain ⟨hi15, hf⟩ := gd_some hf
            refine x_s_pile hc hw hr9 (ok_in hi15) dX10_run_94 (fun H locs hw => ?_)
            refine lv_iinc (lv' := [(3, .int (v6 + 1)), (0, .ref (xr g (200 + 4 * c4.toNatClampNeg))), (1, .int c5), (2, .ref (xr g 14)), (4, .int v7)]) hx hb dX10_run_95 hl (k := 3) rfl rfl (by decide) rfl (fun ls hl => ?_)
            refine lv_goto (tgt := 197) hx hb dX10_run_98 (by decide) ?_
            refine lv_iinc (lv' := [(4, .int (v7 + 1)), (3, .int (v6 + 1)), (0, .ref (xr g (200 + 4 * c4.toNatClampNeg))), (1, .int c5), (2, .ref (xr g 14))]) hx hb dX10_run_197 hl (k := 4) rfl rfl (by decide) rfl (fun ls hl => ?_)
            refine lv_goto (tgt := 20) hx hb dX10_run_200 (by decide) ?_
            exact ih _ _ _ X _ _ _ hf hw (lv_sub hl [2, 3, 4, 1, 0] rfl) kx
          refine lv_icmp_ne (tgt := 90) hx hb dX10_run_82 (by decide) (fun cn32 => ?_) (fun cn32 => ?_)
          · have hX30 := (if_neg cn32).symm.trans hX30
            refine lv_aload_n hx hb dX10_run_90 rfl (lv_at hl 4 rfl) ?_
            refine lv_iload hx hb dX10_run_91 (lv_at hl 0 rfl) ?_
            obtain ⟨hi13, hX30⟩ := gd_some hX30
            refine x_l_hall_names hc hw (ok_in hi13) dX10_run_93 ?_
            obtain rfl := Option.some.inj hX30
            exact kJ31 _ _ _ hw (lv_sub hl [2, 3, 4, 5, 6] rfl)
          · have hX30 := (if_pos cn32).symm.trans hX30
            refine lv_iload hx hb dX10_run_85 (lv_at hl 0 rfl) ?_
            refine lv_goto (tgt := 94) hx hb dX10_run_87 (by decide) ?_
            obtain rfl := Option.some.inj hX30
            exact kJ31 _ _ _ hw (lv_sub hl [2, 3, 4, 5, 6] rfl)
      · have hf := (if_neg cn28).symm.trans hf
        refine lv_iload hx hb dX10_run_62 (lv_at hl 1 rfl) ?_
        refine lv_iconst (v := 2) hx hb dX10_run_64 (by decide) ?_
        refine lv_icmp_ne (tgt := 101) hx hb dX10_run_65 (by decide) (fun cn33 => ?_) (fun cn33 => ?_)
        · have hf := (if_neg cn33).symm.trans hf
          refine lv_iload hx hb dX10_run_101 (lv_at hl 1 rfl) ?_
          refine lv_iconst (v := 5) hx hb dX10_run_103 (by decide) ?_
          refine lv_icmp_eq (tgt := 114) hx hb dX10_run_104 (by decide) (fun cn34 => ?_) (fun cn34 => ?_)
          · have hf := (if_pos cn34).symm.trans hf
            refine lv_iload_n hx hb dX10_run_114 rfl (lv_at hl 5 rfl) ?_
            refine lv_if_le (tgt := 197) hx hb dX10_run_115 (by decide) (fun cn35 => ?_) (fun cn35 => ?_)
            · have hf := (if_pos cn35).symm.trans hf
              refine lv_iinc (lv' := [(4, .int (v7 + 1)), (6, .int ((S8.1 (81 + 4 * c4.toNatClampNeg) v7.toNatClampNeg) &&& 16383)), (5, .int ((S8.1 (81 + 4 * c4.toNatClampNeg) v7.toNatClampNeg) >>> (14 &&& 31))), (0, .ref (xr g (200 + 4 * c4.toNatClampNeg))), (1, .int c5), (2, .ref (xr g 14)), (3, .int v6)]) hx hb dX10_run_197 hl (k := 6) rfl rfl (by decide) rfl (fun ls hl => ?_)
              refine lv_goto (tgt := 20) hx hb dX10_run_200 (by decide) ?_
              exact ih _ _ _ X _ _ _ hf hw (lv_sub hl [3, 4, 5, 6, 0] rfl) kx
            · have hf := (if_neg cn35).symm.trans hf
              refine lv_aload_n hx hb dX10_run_118 rfl (lv_at hl 2 rfl) ?_
              refine x_tg_pile hc hw hr9 fl_10_9 dX10_run_119 ?_
              refine lv_iload_n hx hb dX10_run_122 rfl (lv_at hl 5 rfl) ?_
              refine lv_iconst (v := 1) hx hb dX10_run_123 (by decide) ?_
              refine lv_isub hx hb dX10_run_124 ?_
              obtain ⟨hi16, hf⟩ := gd_some hf
              refine x_l_pile hc hw hr9 (ok_in hi16) dX10_run_125 ?_
              refine lv_istore (lv' := [(7, .int (S8.1 (83 + 4 * c4.toNatClampNeg) (v6 - 1).toNatClampNeg)), (6, .int ((S8.1 (81 + 4 * c4.toNatClampNeg) v7.toNatClampNeg) &&& 16383)), (5, .int ((S8.1 (81 + 4 * c4.toNatClampNeg) v7.toNatClampNeg) >>> (14 &&& 31))), (0, .ref (xr g (200 + 4 * c4.toNatClampNeg))), (1, .int c5), (2, .ref (xr g 14)), (3, .int v6), (4, .int v7)]) hx hb dX10_run_126 hl (by decide) rfl (fun ls hl => ?_)
              refine lv_aload_n hx hb dX10_run_128 rfl (lv_at hl 3 rfl) ?_
              refine x_tg_pile hc hw hr9 fl_10_9 dX10_run_129 ?_
              refine lv_iload_n hx hb dX10_run_132 rfl (lv_at hl 6 rfl) ?_
              refine lv_iconst (v := 1) hx hb dX10_run_133 (by decide) ?_
              refine lv_isub hx hb dX10_run_134 ?_
              refine lv_iload hx hb dX10_run_135 (lv_at hl 2 rfl) ?_
              refine lv_bipush (v := 6) hx hb dX10_run_137 (by decide) ?_
              obtain ⟨v17, hv17⟩ : ∃ y : Int32, y = (if ((S8.1 (81 + 4 * c4.toNatClampNeg) v7.toNatClampNeg) >>> (14 &&& 31)) = 6 then -(S8.1 (83 + 4 * c4.toNatClampNeg) (v6 - 1).toNatClampNeg) else (if (S8.1 (83 + 4 * c4.toNatClampNeg) (v6 - 1).toNatClampNeg) = 0 then 1 else 0)) := ⟨_, rfl⟩
              try rw [← hv17] at hf
              have kJ36 : ∀ v17x : Int32, v17 = v17x → ∀ (H : Heap) (locs : List Loc) (ls : Array Slot), xI g A H0 s S8 H locs → lv_has ls 8 [(0, .ref (xr g (200 + 4 * c4.toNatClampNeg))), (1, .int c5), (2, .ref (xr g 14)), (3, .int v6), (4, .int v7)] → W p l e R s m args below meth c H locs 0 0 Q (F0 m 158 ls [.int v17x, .int (v6 - 1), .ref (xr g (200 + (4 * c4.toNatClampNeg + 3)))]) := by
                intro v17x hxv17 H locs ls hw hl
                subst hxv17
                refine x_s_pile hc hw hr9 (ok_in hi16) dX10_run_158 (fun H locs hw => ?_)
                refine lv_goto (tgt := 197) hx hb dX10_run_159 (by decide) ?_
                refine lv_iinc (lv' := [(4, .int (v7 + 1)), (0, .ref (xr g (200 + 4 * c4.toNatClampNeg))), (1, .int c5), (2, .ref (xr g 14)), (3, .int v6)]) hx hb dX10_run_197 hl (k := 4) rfl rfl (by decide) rfl (fun ls hl => ?_)
                refine lv_goto (tgt := 20) hx hb dX10_run_200 (by decide) ?_
                exact ih _ _ _ X _ _ _ hf hw (lv_sub hl [1, 2, 3, 4, 0] rfl) kx
              refine lv_icmp_ne (tgt := 148) hx hb dX10_run_139 (by decide) (fun cn37 => ?_) (fun cn37 => ?_)
              · refine lv_iload hx hb dX10_run_148 (lv_at hl 0 rfl) ?_
                refine lv_if_ne (tgt := 157) hx hb dX10_run_150 (by decide) (fun cn38 => ?_) (fun cn38 => ?_)
                · refine lv_iconst (v := 0) hx hb dX10_run_157 (by decide) ?_
                  have ev17 : v17 = (0 : Int32) := by rw [hv17]; simp only [if_neg cn37, if_neg cn38]
                  exact kJ36 _ ev17 _ _ _ hw (lv_sub hl [3, 4, 5, 6, 7] rfl)
                · refine lv_iconst (v := 1) hx hb dX10_run_153 (by decide) ?_
                  refine lv_goto (tgt := 158) hx hb dX10_run_154 (by decide) ?_
                  have ev17 : v17 = (1 : Int32) := by rw [hv17]; simp only [if_neg cn37, if_pos cn38]
                  exact kJ36 _ ev17 _ _ _ hw (lv_sub hl [3, 4, 5, 6, 7] rfl)
              · refine lv_iload hx hb dX10_run_142 (lv_at hl 0 rfl) ?_
                refine lv_ineg hx hb dX10_run_144 ?_
                refine lv_goto (tgt := 158) hx hb dX10_run_145 (by decide) ?_
                have ev17 : v17 = (-(S8.1 (83 + 4 * c4.toNatClampNeg) (v6 - 1).toNatClampNeg)) := by rw [hv17]; simp only [if_pos cn37]
                exact kJ36 _ ev17 _ _ _ hw (lv_sub hl [3, 4, 5, 6, 7] rfl)
          · have hf := (if_neg cn34).symm.trans hf
            refine lv_iload hx hb dX10_run_107 (lv_at hl 1 rfl) ?_
            refine lv_bipush (v := 6) hx hb dX10_run_109 (by decide) ?_
            refine lv_icmp_ne (tgt := 162) hx hb dX10_run_111 (by decide) (fun cn39 => ?_) (fun cn39 => ?_)
            · have hf := (if_neg cn39).symm.trans hf
              refine lv_iload_n hx hb dX10_run_162 rfl (lv_at hl 5 rfl) ?_
              refine lv_iconst (v := 1) hx hb dX10_run_163 (by decide) ?_
              refine lv_icmp_le (tgt := 197) hx hb dX10_run_164 (by decide) (fun cn40 => ?_) (fun cn40 => ?_)
              · have hf := (if_pos cn40).symm.trans hf
                refine lv_iinc (lv' := [(4, .int (v7 + 1)), (6, .int ((S8.1 (81 + 4 * c4.toNatClampNeg) v7.toNatClampNeg) &&& 16383)), (5, .int ((S8.1 (81 + 4 * c4.toNatClampNeg) v7.toNatClampNeg) >>> (14 &&& 31))), (0, .ref (xr g (200 + 4 * c4.toNatClampNeg))), (1, .int c5), (2, .ref (xr g 14)), (3, .int v6)]) hx hb dX10_run_197 hl (k := 6) rfl rfl (by decide) rfl (fun ls hl => ?_)
                refine lv_goto (tgt := 20) hx hb dX10_run_200 (by decide) ?_
                exact ih _ _ _ X _ _ _ hf hw (lv_sub hl [3, 4, 5, 6, 0] rfl) kx
              · have hf := (if_neg cn40).symm.trans hf
                refine lv_iinc (lv' := [(3, .int (v6 + (-1))), (6, .int ((S8.1 (81 + 4 * c4.toNatClampNeg) v7.toNatClampNeg) &&& 16383)), (5, .int ((S8.1 (81 + 4 * c4.toNatClampNeg) v7.toNatClampNeg) >>> (14 &&& 31))), (0, .ref (xr g (200 + 4 * c4.toNatClampNeg))), (1, .int c5), (2, .ref (xr g 14)), (4, .int v7)]) hx hb dX10_run_167 hl (k := 5) rfl rfl (by decide) rfl (fun ls hl => ?_)
                refine lv_aload_n hx hb dX10_run_170 rfl (lv_at hl 3 rfl) ?_
                refine x_tg_pile hc hw hr9 fl_10_9 dX10_run_171 ?_
                refine lv_iload_n hx hb dX10_run_174 rfl (lv_at hl 0 rfl) ?_
                refine lv_iconst (v := 1) hx hb dX10_run_175 (by decide) ?_
                refine lv_isub hx hb dX10_run_176 ?_
                refine lv_iload hx hb dX10_run_177 (lv_at hl 2 rfl) ?_
                refine lv_aload_n hx hb dX10_run_179 rfl (lv_at hl 3 rfl) ?_
                refine x_tg_pile hc hw hr9 fl_10_9 dX10_run_180 ?_
                refine lv_iload_n hx hb dX10_run_183 rfl (lv_at hl 0 rfl) ?_
                refine lv_iconst (v := 1) hx hb dX10_run_184 (by decide) ?_
                refine lv_isub hx hb dX10_run_185 ?_
                obtain ⟨hi18, hf⟩ := gd_some hf
                refine x_l_pile hc hw hr9 (ok_in hi18) dX10_run_186 ?_
                refine lv_aload_n hx hb dX10_run_187 rfl (lv_at hl 3 rfl) ?_
                refine x_tg_pile hc hw hr9 fl_10_9 dX10_run_188 ?_
                refine lv_iload_n hx hb dX10_run_191 rfl (lv_at hl 0 rfl) ?_
                obtain ⟨hi19, hf⟩ := gd_some hf
                refine x_l_pile hc hw hr9 (ok_in hi19) dX10_run_192 ?_
                refine x_csi (As := [.int ((S8.1 (81 + 4 * c4.toNatClampNeg) v7.toNatClampNeg) >>> (14 &&& 31)), .int (S8.1 (83 + 4 * c4.toNatClampNeg) ((v6 + (-1)) - 1).toNatClampNeg), .int (S8.1 (83 + 4 * c4.toNatClampNeg) (v6 + (-1)).toNatClampNeg)]) (rest := [.int ((v6 + (-1)) - 1), .ref (xr g (200 + (4 * c4.toNatClampNeg + 3)))]) hc hw hR (hml.trans hl.1.symm) (cx_T_joined l S8 ((S8.1 (81 + 4 * c4.toNatClampNeg) v7.toNatClampNeg) >>> (14 &&& 31)) (S8.1 (83 + 4 * c4.toNatClampNeg) ((v6 + (-1)) - 1).toNatClampNeg) (S8.1 (83 + 4 * c4.toNatClampNeg) (v6 + (-1)).toNatClampNeg) _ rfl) xq_10_T_joined (by decide) rfl rfl rfl (Nat.le_of_ble_eq_true rfl) dX10_run_193 (fun H locs hw => ?_) ⟨Nat.zero_le _, Nat.zero_le _⟩
                refine x_s_pile hc hw hr9 (ok_in hi18) dX10_run_196 (fun H locs hw => ?_)
                refine lv_iinc (lv' := [(4, .int (v7 + 1)), (3, .int (v6 + (-1))), (6, .int ((S8.1 (81 + 4 * c4.toNatClampNeg) v7.toNatClampNeg) &&& 16383)), (5, .int ((S8.1 (81 + 4 * c4.toNatClampNeg) v7.toNatClampNeg) >>> (14 &&& 31))), (0, .ref (xr g (200 + 4 * c4.toNatClampNeg))), (1, .int c5), (2, .ref (xr g 14))]) hx hb dX10_run_197 hl (k := 6) rfl rfl (by decide) rfl (fun ls hl => ?_)
                refine lv_goto (tgt := 20) hx hb dX10_run_200 (by decide) ?_
                exact ih _ _ _ X _ _ _ hf hw (lv_sub hl [4, 5, 6, 1, 0] rfl) kx
            · have hf := (if_pos cn39).symm.trans hf
              refine lv_iload_n hx hb dX10_run_114 rfl (lv_at hl 5 rfl) ?_
              refine lv_if_le (tgt := 197) hx hb dX10_run_115 (by decide) (fun cn41 => ?_) (fun cn41 => ?_)
              · have hf := (if_pos cn41).symm.trans hf
                refine lv_iinc (lv' := [(4, .int (v7 + 1)), (6, .int ((S8.1 (81 + 4 * c4.toNatClampNeg) v7.toNatClampNeg) &&& 16383)), (5, .int ((S8.1 (81 + 4 * c4.toNatClampNeg) v7.toNatClampNeg) >>> (14 &&& 31))), (0, .ref (xr g (200 + 4 * c4.toNatClampNeg))), (1, .int c5), (2, .ref (xr g 14)), (3, .int v6)]) hx hb dX10_run_197 hl (k := 6) rfl rfl (by decide) rfl (fun ls hl => ?_)
                refine lv_goto (tgt := 20) hx hb dX10_run_200 (by decide) ?_
                exact ih _ _ _ X _ _ _ hf hw (lv_sub hl [3, 4, 5, 6, 0] rfl) kx
              · have hf := (if_neg cn41).symm.trans hf
                refine lv_aload_n hx hb dX10_run_118 rfl (lv_at hl 2 rfl) ?_
                refine x_tg_pile hc hw hr9 fl_10_9 dX10_run_119 ?_
                refine lv_iload_n hx hb dX10_run_122 rfl (lv_at hl 5 rfl) ?_
                refine lv_iconst (v := 1) hx hb dX10_run_123 (by decide) ?_
                refine lv_isub hx hb dX10_run_124 ?_
                obtain ⟨hi20, hf⟩ := gd_some hf
                refine x_l_pile hc hw hr9 (ok_in hi20) dX10_run_125 ?_
                refine lv_istore (lv' := [(7, .int (S8.1 (83 + 4 * c4.toNatClampNeg) (v6 - 1).toNatClampNeg)), (6, .int ((S8.1 (81 + 4 * c4.toNatClampNeg) v7.toNatClampNeg) &&& 16383)), (5, .int ((S8.1 (81 + 4 * c4.toNatClampNeg) v7.toNatClampNeg) >>> (14 &&& 31))), (0, .ref (xr g (200 + 4 * c4.toNatClampNeg))), (1, .int c5), (2, .ref (xr g 14)), (3, .int v6), (4, .int v7)]) hx hb dX10_run_126 hl (by decide) rfl (fun ls hl => ?_)
                refine lv_aload_n hx hb dX10_run_128 rfl (lv_at hl 3 rfl) ?_
                refine x_tg_pile hc hw hr9 fl_10_9 dX10_run_129 ?_
                refine lv_iload_n hx hb dX10_run_132 rfl (lv_at hl 6 rfl) ?_
                refine lv_iconst (v := 1) hx hb dX10_run_133 (by decide) ?_
                refine lv_isub hx hb dX10_run_134 ?_
                refine lv_iload hx hb dX10_run_135 (lv_at hl 2 rfl) ?_
                refine lv_bipush (v := 6) hx hb dX10_run_137 (by decide) ?_
                obtain ⟨v21, hv21⟩ : ∃ y : Int32, y = (if ((S8.1 (81 + 4 * c4.toNatClampNeg) v7.toNatClampNeg) >>> (14 &&& 31)) = 6 then -(S8.1 (83 + 4 * c4.toNatClampNeg) (v6 - 1).toNatClampNeg) else (if (S8.1 (83 + 4 * c4.toNatClampNeg) (v6 - 1).toNatClampNeg) = 0 then 1 else 0)) := ⟨_, rfl⟩
                try rw [← hv21] at hf
                have kJ42 : ∀ v21x : Int32, v21 = v21x → ∀ (H : Heap) (locs : List Loc) (ls : Array Slot), xI g A H0 s S8 H locs → lv_has ls 8 [(0, .ref (xr g (200 + 4 * c4.toNatClampNeg))), (1, .int c5), (2, .ref (xr g 14)), (3, .int v6), (4, .int v7)] → W p l e R s m args below meth c H locs 0 0 Q (F0 m 158 ls [.int v21x, .int (v6 - 1), .ref (xr g (200 + (4 * c4.toNatClampNeg + 3)))]) := by
                  intro v21x hxv21 H locs ls hw hl
                  subst hxv21
                  refine x_s_pile hc hw hr9 (ok_in hi20) dX10_run_158 (fun H locs hw => ?_)
                  refine lv_goto (tgt := 197) hx hb dX10_run_159 (by decide) ?_
                  refine lv_iinc (lv' := [(4, .int (v7 + 1)), (0, .ref (xr g (200 + 4 * c4.toNatClampNeg))), (1, .int c5), (2, .ref (xr g 14)), (3, .int v6)]) hx hb dX10_run_197 hl (k := 4) rfl rfl (by decide) rfl (fun ls hl => ?_)
                  refine lv_goto (tgt := 20) hx hb dX10_run_200 (by decide) ?_
                  exact ih _ _ _ X _ _ _ hf hw (lv_sub hl [1, 2, 3, 4, 0] rfl) kx
                refine lv_icmp_ne (tgt := 148) hx hb dX10_run_139 (by decide) (fun cn43 => ?_) (fun cn43 => ?_)
                · refine lv_iload hx hb dX10_run_148 (lv_at hl 0 rfl) ?_
                  refine lv_if_ne (tgt := 157) hx hb dX10_run_150 (by decide) (fun cn44 => ?_) (fun cn44 => ?_)
                  · refine lv_iconst (v := 0) hx hb dX10_run_157 (by decide) ?_
                    have ev21 : v21 = (0 : Int32) := by rw [hv21]; simp only [if_neg cn43, if_neg cn44]
                    exact kJ42 _ ev21 _ _ _ hw (lv_sub hl [3, 4, 5, 6, 7] rfl)
                  · refine lv_iconst (v := 1) hx hb dX10_run_153 (by decide) ?_
                    refine lv_goto (tgt := 158) hx hb dX10_run_154 (by decide) ?_
                    have ev21 : v21 = (1 : Int32) := by rw [hv21]; simp only [if_neg cn43, if_pos cn44]
                    exact kJ42 _ ev21 _ _ _ hw (lv_sub hl [3, 4, 5, 6, 7] rfl)
                · refine lv_iload hx hb dX10_run_142 (lv_at hl 0 rfl) ?_
                  refine lv_ineg hx hb dX10_run_144 ?_
                  refine lv_goto (tgt := 158) hx hb dX10_run_145 (by decide) ?_
                  have ev21 : v21 = (-(S8.1 (83 + 4 * c4.toNatClampNeg) (v6 - 1).toNatClampNeg)) := by rw [hv21]; simp only [if_pos cn43]
                  exact kJ42 _ ev21 _ _ _ hw (lv_sub hl [3, 4, 5, 6, 7] rfl)
        · have hf := (if_pos cn33).symm.trans hf
          refine lv_iload_n hx hb dX10_run_68 rfl (lv_at hl 5 rfl) ?_
          refine lv_bipush (v := 32) hx hb dX10_run_69 (by decide) ?_
          refine lv_icmp_ge (tgt := 197) hx hb dX10_run_71 (by decide) (fun cn45 => ?_) (fun cn45 => ?_)
          · have hf := (if_pos cn45).symm.trans hf
            refine lv_iinc (lv' := [(4, .int (v7 + 1)), (6, .int ((S8.1 (81 + 4 * c4.toNatClampNeg) v7.toNatClampNeg) &&& 16383)), (5, .int ((S8.1 (81 + 4 * c4.toNatClampNeg) v7.toNatClampNeg) >>> (14 &&& 31))), (0, .ref (xr g (200 + 4 * c4.toNatClampNeg))), (1, .int c5), (2, .ref (xr g 14)), (3, .int v6)]) hx hb dX10_run_197 hl (k := 6) rfl rfl (by decide) rfl (fun ls hl => ?_)
            refine lv_goto (tgt := 20) hx hb dX10_run_200 (by decide) ?_
            exact ih _ _ _ X _ _ _ hf hw (lv_sub hl [3, 4, 5, 6, 0] rfl) kx
          · have hf := (if_neg cn45).symm.trans hf
            refine lv_aload_n hx hb dX10_run_74 rfl (lv_at hl 2 rfl) ?_
            refine x_tg_pile hc hw hr9 fl_10_9 dX10_run_75 ?_
            refine lv_iload_n hx hb dX10_run_78 rfl (lv_at hl 5 rfl) ?_
            refine lv_iload hx hb dX10_run_79 (lv_at hl 1 rfl) ?_
            refine lv_iconst (v := 1) hx hb dX10_run_81 (by decide) ?_
            obtain ⟨v23, hX46, hf⟩ := bd1_some hf
            have kJ47 : ∀ (H : Heap) (locs : List Loc) (ls : Array Slot), xI g A H0 s S8 H locs → lv_has ls 8 [(0, .ref (xr g (200 + 4 * c4.toNatClampNeg))), (1, .int c5), (2, .ref (xr g 14)), (3, .int v6), (4, .int v7)] → W p l e R s m args below meth c H locs 0 0 Q (F0 m 94 ls [.int v23, .int v6, .ref (xr g (200 + (4 * c4.toNatClampNeg + 3)))]) := by
              intro H locs ls hw hl
              obtain ⟨hi24, hf⟩ := gd_some hf
              refine x_s_pile hc hw hr9 (ok_in hi24) dX10_run_94 (fun H locs hw => ?_)
              refine lv_iinc (lv' := [(3, .int (v6 + 1)), (0, .ref (xr g (200 + 4 * c4.toNatClampNeg))), (1, .int c5), (2, .ref (xr g 14)), (4, .int v7)]) hx hb dX10_run_95 hl (k := 3) rfl rfl (by decide) rfl (fun ls hl => ?_)
              refine lv_goto (tgt := 197) hx hb dX10_run_98 (by decide) ?_
              refine lv_iinc (lv' := [(4, .int (v7 + 1)), (3, .int (v6 + 1)), (0, .ref (xr g (200 + 4 * c4.toNatClampNeg))), (1, .int c5), (2, .ref (xr g 14))]) hx hb dX10_run_197 hl (k := 4) rfl rfl (by decide) rfl (fun ls hl => ?_)
              refine lv_goto (tgt := 20) hx hb dX10_run_200 (by decide) ?_
              exact ih _ _ _ X _ _ _ hf hw (lv_sub hl [2, 3, 4, 1, 0] rfl) kx
            refine lv_icmp_ne (tgt := 90) hx hb dX10_run_82 (by decide) (fun cn48 => ?_) (fun cn48 => ?_)
            · have hX46 := (if_neg cn48).symm.trans hX46
              refine lv_aload_n hx hb dX10_run_90 rfl (lv_at hl 4 rfl) ?_
              refine lv_iload hx hb dX10_run_91 (lv_at hl 0 rfl) ?_
              obtain ⟨hi22, hX46⟩ := gd_some hX46
              refine x_l_hall_names hc hw (ok_in hi22) dX10_run_93 ?_
              obtain rfl := Option.some.inj hX46
              exact kJ47 _ _ _ hw (lv_sub hl [2, 3, 4, 5, 6] rfl)
            · have hX46 := (if_pos cn48).symm.trans hX46
              refine lv_iload hx hb dX10_run_85 (lv_at hl 0 rfl) ?_
              refine lv_goto (tgt := 94) hx hb dX10_run_87 (by decide) ?_
              obtain rfl := Option.some.inj hX46
              exact kJ47 _ _ _ hw (lv_sub hl [2, 3, 4, 5, 6] rfl)
def xf_T_run (N : Nat) (S : xS) (a0 : Int32) (a1 : Int32) : Option (Int32 × xS) := (bd1 (if a1 ≤ 0 then some 0 else (if a0.toNatClampNeg < S.2.2.2 then (if ok (a1 - 1) 3 then some (S.1 (82 + 4 * a0.toNatClampNeg) (a1 - 1).toNatClampNeg) else none) else none)) fun v3 => (bd1 (xf_T_run_L20 N a0 a1 N S 0 v3) fun S25 => (if a0.toNatClampNeg < S25.2.2.2 then some (S25.1 (83 + 4 * a0.toNatClampNeg) (0 : Int32).toNatClampNeg, S25) else none)))
set_option maxRecDepth 100000 in
theorem cx_T_run (l : Launch) (N : Nat) (S : xS) (a0 : Int32) (a1 : Int32) (res : Int32) (S1 : xS) (hf : xf_T_run N S a0 a1 = some (res, S1)) : xMi l yX10_run cX10_run 8 .int 3 (fun g => [.ref (xr g (200 + 4 * a0.toNatClampNeg)), .int a1, .ref (xr g 14)]) S res S1 := by
  refine xMi_of (own := RX10) (by decide) rfl rfl (fun g => Nat.le_of_ble_eq_true rfl) ?_
  intro p e R s m args below meth c Q g A H0 H locs ls hc hR hml hw hl hQ
  have hl : lv_has ls 8 [(0, .ref (xr g (200 + 4 * a0.toNatClampNeg))), (1, .int a1), (2, .ref (xr g 14))] := hl
  have hx := hc.1
  have hb := hc.2.1
  unfold xf_T_run at hf
  refine lv_iconst (v := 0) hx hb dX10_run_0 (by decide) ?_
  refine lv_istore_n (lv' := [(3, .int 0), (0, .ref (xr g (200 + 4 * a0.toNatClampNeg))), (1, .int a1), (2, .ref (xr g 14))]) hx hb dX10_run_1 rfl hl (by decide) rfl (fun ls hl => ?_)
  refine lv_iload_n hx hb dX10_run_2 rfl (lv_at hl 2 rfl) ?_
  obtain ⟨v3, hX50, hf⟩ := bd1_some hf
  have kJ51 : ∀ (H : Heap) (locs : List Loc) (ls : Array Slot), xI g A H0 s S H locs → lv_has ls 8 [(0, .ref (xr g (200 + 4 * a0.toNatClampNeg))), (1, .int a1), (2, .ref (xr g 14)), (3, .int 0)] → W p l e R s m args below meth c H locs 0 0 Q (F0 m 18 ls [.int v3]) := by
    intro H locs ls hw hl
    refine lv_istore (lv' := [(4, .int v3), (0, .ref (xr g (200 + 4 * a0.toNatClampNeg))), (1, .int a1), (2, .ref (xr g 14)), (3, .int 0)]) hx hb dX10_run_18 hl (by decide) rfl (fun ls hl => ?_)
    obtain ⟨S25, hL, hf⟩ := bd1_some hf
    refine wx_T_run_L20 hc hR hml N a0 a1 N _ _ _ _ _ _ _ hL hw (lv_sub hl [1, 2, 3, 4, 0] rfl) (fun H locs ls hw hl => ?_)
    refine lv_aload_n hx hb dX10_run_203 rfl (lv_at hl 0 rfl) ?_
    obtain ⟨hr26, hf⟩ := gd_some hf
    refine x_tg_pile hc hw hr26 fl_10_9 dX10_run_204 ?_
    refine lv_iconst (v := 0) hx hb dX10_run_207 (by decide) ?_
    refine x_l_pile hc hw hr26 (ok_in (by decide)) dX10_run_208 ?_
    obtain ⟨rfl, rfl⟩ := pr2_some hf
    exact hQ _ _ _ _ dX10_run_209 hw
  refine lv_if_le (tgt := 17) hx hb dX10_run_3 (by decide) (fun cn52 => ?_) (fun cn52 => ?_)
  · have hX50 := (if_pos cn52).symm.trans hX50
    refine lv_iconst (v := 0) hx hb dX10_run_17 (by decide) ?_
    obtain rfl := Option.some.inj hX50
    exact kJ51 _ _ _ hw (lv_sub hl [1, 2, 3, 0] rfl)
  · have hX50 := (if_neg cn52).symm.trans hX50
    refine lv_aload_n hx hb dX10_run_6 rfl (lv_at hl 1 rfl) ?_
    obtain ⟨hr1, hX50⟩ := gd_some hX50
    refine x_tg_ends hc hw hr1 fl_10_16 dX10_run_7 ?_
    refine lv_iload_n hx hb dX10_run_10 rfl (lv_at hl 2 rfl) ?_
    refine lv_iconst (v := 1) hx hb dX10_run_11 (by decide) ?_
    refine lv_isub hx hb dX10_run_12 ?_
    obtain ⟨hi2, hX50⟩ := gd_some hX50
    refine x_l_ends hc hw hr1 (ok_in hi2) dX10_run_13 ?_
    refine lv_goto (tgt := 18) hx hb dX10_run_14 (by decide) ?_
    obtain rfl := Option.some.inj hX50
    exact kJ51 _ _ _ hw (lv_sub hl [1, 2, 3, 0] rfl)
def xf_X_sort (N : Nat) (S : xS) (a1 : Int32) (a2 : Int32) (a3 : Int32) : Option (Int32 × xS) := (if (xf_X_isSort a1) = true then (if (xf_X_isIn a2 0 2) = true then (if (xf_X_isIn a3 0 ((if a2 = 2 then 9 else 40) : Int32)) = true then (if a2 = 0 then (if ok a1 4 then some (S.1 8 a1.toNatClampNeg, xs S 8 a1.toNatClampNeg a3) else none) else (if a2 = 1 then (if ok a1 4 then some (S.1 9 a1.toNatClampNeg, xs S 9 a1.toNatClampNeg a3) else none) else (if ok a1 4 then some (S.1 10 a1.toNatClampNeg, xs S 10 a1.toNatClampNeg a3) else none))) else some ((-2), S)) else some ((-2), S)) else some ((-1), S))
set_option maxRecDepth 100000 in
theorem cx_X_sort (l : Launch) (N : Nat) (S : xS) (a1 : Int32) (a2 : Int32) (a3 : Int32) (res : Int32) (S1 : xS) (hf : xf_X_sort N S a1 a2 a3 = some (res, S1)) : xMi l yX11_sort cX11_sort 6 .int 4 (fun g => [.ref (xr g 0), .int a1, .int a2, .int a3]) S res S1 := by
  refine xMi_of (own := RX11) (by decide) rfl rfl (fun g => Nat.le_of_ble_eq_true rfl) ?_
  intro p e R s m args below meth c Q g A H0 H locs ls hc hR hml hw hl hQ
  have hl : lv_has ls 6 [(0, .ref (xr g 0)), (1, .int a1), (2, .int a2), (3, .int a3)] := hl
  have hx := hc.1
  have hb := hc.2.1
  unfold xf_X_sort at hf
  refine lv_iload_n hx hb dX11_sort_0 rfl (lv_at hl 1 rfl) ?_
  refine x_csi (As := [.int a1]) (rest := []) hc hw hR (hml.trans hl.1.symm) (cx_X_isSort l S a1 _ rfl) xq_11_X_isSort (by decide) rfl rfl rfl (Nat.le_of_ble_eq_true rfl) dX11_sort_1 (fun H locs hw => ?_) ⟨Nat.zero_le _, Nat.zero_le _⟩
  refine lv_if_neb (tgt := 9) hx hb dX11_sort_4 (by decide) (fun cn5 => ?_) (fun cn5 => ?_)
  · have hf := (if_pos cn5).symm.trans hf
    refine lv_iload_n hx hb dX11_sort_9 rfl (lv_at hl 2 rfl) ?_
    refine lv_iconst (v := 0) hx hb dX11_sort_10 (by decide) ?_
    refine lv_iconst (v := 2) hx hb dX11_sort_11 (by decide) ?_
    refine x_csi (As := [.int a2, .int 0, .int 2]) (rest := []) hc hw hR (hml.trans hl.1.symm) (cx_X_isIn l S a2 0 2 _ rfl) xq_11_X_isIn (by decide) rfl rfl rfl (Nat.le_of_ble_eq_true rfl) dX11_sort_12 (fun H locs hw => ?_) ⟨Nat.zero_le _, Nat.zero_le _⟩
    refine lv_if_eqb (tgt := 38) hx hb dX11_sort_15 (by decide) (fun cn6 => ?_) (fun cn6 => ?_)
    · have hf := (if_neg cn6).symm.trans hf
      refine lv_bipush (v := (-2)) hx hb dX11_sort_38 (by decide) ?_
      obtain ⟨rfl, rfl⟩ := pr2_some hf
      exact hQ _ _ _ _ dX11_sort_40 hw
    · have hf := (if_pos cn6).symm.trans hf
      refine lv_iload_n hx hb dX11_sort_18 rfl (lv_at hl 3 rfl) ?_
      refine lv_iconst (v := 0) hx hb dX11_sort_19 (by decide) ?_
      refine lv_iload_n hx hb dX11_sort_20 rfl (lv_at hl 2 rfl) ?_
      refine lv_iconst (v := 2) hx hb dX11_sort_21 (by decide) ?_
      obtain ⟨v1, hv1⟩ : ∃ y : Int32, y = (if a2 = 2 then 9 else 40) := ⟨_, rfl⟩
      try rw [← hv1] at hf
      have kJ10 : ∀ v1x : Int32, v1 = v1x → ∀ (H : Heap) (locs : List Loc) (ls : Array Slot), xI g A H0 s S H locs → lv_has ls 6 [(0, .ref (xr g 0)), (1, .int a1), (2, .int a2), (3, .int a3)] → W p l e R s m args below meth c H locs 0 0 Q (F0 m 32 ls [.int v1x, .int 0, .int a3]) := by
        intro v1x hxv1 H locs ls hw hl
        subst hxv1
        refine x_csi (As := [.int a3, .int 0, .int v1]) (rest := []) hc hw hR (hml.trans hl.1.symm) (cx_X_isIn l S a3 0 v1 _ rfl) xq_11_X_isIn (by decide) rfl rfl rfl (Nat.le_of_ble_eq_true rfl) dX11_sort_32 (fun H locs hw => ?_) ⟨Nat.zero_le _, Nat.zero_le _⟩
        refine lv_if_neb (tgt := 41) hx hb dX11_sort_35 (by decide) (fun cn7 => ?_) (fun cn7 => ?_)
        · have hf := (if_pos cn7).symm.trans hf
          refine lv_iload_n hx hb dX11_sort_41 rfl (lv_at hl 2 rfl) ?_
          refine lv_if_ne (tgt := 55) hx hb dX11_sort_42 (by decide) (fun cn8 => ?_) (fun cn8 => ?_)
          · have hf := (if_neg cn8).symm.trans hf
            refine lv_iload_n hx hb dX11_sort_55 rfl (lv_at hl 2 rfl) ?_
            refine lv_iconst (v := 1) hx hb dX11_sort_56 (by decide) ?_
            refine lv_icmp_ne (tgt := 70) hx hb dX11_sort_57 (by decide) (fun cn9 => ?_) (fun cn9 => ?_)
            · have hf := (if_neg cn9).symm.trans hf
              refine lv_aload_n hx hb dX11_sort_70 rfl (lv_at hl 0 rfl) ?_
              refine x_g_this_hall hc hw fl_11_10 dX11_sort_71 ?_
              refine x_g_hall_counts hc hw fl_11_110 dX11_sort_74 ?_
              refine lv_astore (lv' := [(4, .ref (xr g 11)), (0, .ref (xr g 0)), (1, .int a1), (2, .int a2), (3, .int a3)]) hx hb dX11_sort_77 hl (by decide) rfl (fun ls hl => ?_)
              refine lv_aload hx hb dX11_sort_79 (lv_at hl 0 rfl) ?_
              refine lv_iload_n hx hb dX11_sort_81 rfl (lv_at hl 2 rfl) ?_
              obtain ⟨hi2, hf⟩ := gd_some hf
              refine x_l_hall_counts hc hw (ok_in hi2) dX11_sort_82 ?_
              refine lv_istore (lv' := [(5, .int (S.1 10 a1.toNatClampNeg)), (4, .ref (xr g 11)), (0, .ref (xr g 0)), (1, .int a1), (2, .int a2), (3, .int a3)]) hx hb dX11_sort_83 hl (by decide) rfl (fun ls hl => ?_)
              refine lv_aload hx hb dX11_sort_85 (lv_at hl 1 rfl) ?_
              refine lv_iload_n hx hb dX11_sort_87 rfl (lv_at hl 3 rfl) ?_
              refine lv_iload_n hx hb dX11_sort_88 rfl (lv_at hl 5 rfl) ?_
              refine x_s_hall_counts hc hw (ok_in hi2) dX11_sort_89 (fun H locs hw => ?_)
              refine lv_iload hx hb dX11_sort_90 (lv_at hl 0 rfl) ?_
              obtain ⟨rfl, rfl⟩ := pr2_some hf
              exact hQ _ _ _ _ dX11_sort_92 hw
            · have hf := (if_pos cn9).symm.trans hf
              refine lv_aload_n hx hb dX11_sort_60 rfl (lv_at hl 0 rfl) ?_
              refine x_g_this_hall hc hw fl_11_10 dX11_sort_61 ?_
              refine x_g_hall_heads hc hw fl_11_107 dX11_sort_64 ?_
              refine lv_goto (tgt := 77) hx hb dX11_sort_67 (by decide) ?_
              refine lv_astore (lv' := [(4, .ref (xr g 13)), (0, .ref (xr g 0)), (1, .int a1), (2, .int a2), (3, .int a3)]) hx hb dX11_sort_77 hl (by decide) rfl (fun ls hl => ?_)
              refine lv_aload hx hb dX11_sort_79 (lv_at hl 0 rfl) ?_
              refine lv_iload_n hx hb dX11_sort_81 rfl (lv_at hl 2 rfl) ?_
              obtain ⟨hi3, hf⟩ := gd_some hf
              refine x_l_hall_heads hc hw (ok_in hi3) dX11_sort_82 ?_
              refine lv_istore (lv' := [(5, .int (S.1 9 a1.toNatClampNeg)), (4, .ref (xr g 13)), (0, .ref (xr g 0)), (1, .int a1), (2, .int a2), (3, .int a3)]) hx hb dX11_sort_83 hl (by decide) rfl (fun ls hl => ?_)
              refine lv_aload hx hb dX11_sort_85 (lv_at hl 1 rfl) ?_
              refine lv_iload_n hx hb dX11_sort_87 rfl (lv_at hl 3 rfl) ?_
              refine lv_iload_n hx hb dX11_sort_88 rfl (lv_at hl 5 rfl) ?_
              refine x_s_hall_heads hc hw (ok_in hi3) dX11_sort_89 (fun H locs hw => ?_)
              refine lv_iload hx hb dX11_sort_90 (lv_at hl 0 rfl) ?_
              obtain ⟨rfl, rfl⟩ := pr2_some hf
              exact hQ _ _ _ _ dX11_sort_92 hw
          · have hf := (if_pos cn8).symm.trans hf
            refine lv_aload_n hx hb dX11_sort_45 rfl (lv_at hl 0 rfl) ?_
            refine x_g_this_hall hc hw fl_11_10 dX11_sort_46 ?_
            refine x_g_hall_eyes hc hw fl_11_104 dX11_sort_49 ?_
            refine lv_goto (tgt := 77) hx hb dX11_sort_52 (by decide) ?_
            refine lv_astore (lv' := [(4, .ref (xr g 12)), (0, .ref (xr g 0)), (1, .int a1), (2, .int a2), (3, .int a3)]) hx hb dX11_sort_77 hl (by decide) rfl (fun ls hl => ?_)
            refine lv_aload hx hb dX11_sort_79 (lv_at hl 0 rfl) ?_
            refine lv_iload_n hx hb dX11_sort_81 rfl (lv_at hl 2 rfl) ?_
            obtain ⟨hi4, hf⟩ := gd_some hf
            refine x_l_hall_eyes hc hw (ok_in hi4) dX11_sort_82 ?_
            refine lv_istore (lv' := [(5, .int (S.1 8 a1.toNatClampNeg)), (4, .ref (xr g 12)), (0, .ref (xr g 0)), (1, .int a1), (2, .int a2), (3, .int a3)]) hx hb dX11_sort_83 hl (by decide) rfl (fun ls hl => ?_)
            refine lv_aload hx hb dX11_sort_85 (lv_at hl 1 rfl) ?_
            refine lv_iload_n hx hb dX11_sort_87 rfl (lv_at hl 3 rfl) ?_
            refine lv_iload_n hx hb dX11_sort_88 rfl (lv_at hl 5 rfl) ?_
            refine x_s_hall_eyes hc hw (ok_in hi4) dX11_sort_89 (fun H locs hw => ?_)
            refine lv_iload hx hb dX11_sort_90 (lv_at hl 0 rfl) ?_
            obtain ⟨rfl, rfl⟩ := pr2_some hf
            exact hQ _ _ _ _ dX11_sort_92 hw
        · have hf := (if_neg cn7).symm.trans hf
          refine lv_bipush (v := (-2)) hx hb dX11_sort_38 (by decide) ?_
          obtain ⟨rfl, rfl⟩ := pr2_some hf
          exact hQ _ _ _ _ dX11_sort_40 hw
      refine lv_icmp_ne (tgt := 30) hx hb dX11_sort_22 (by decide) (fun cn11 => ?_) (fun cn11 => ?_)
      · refine lv_bipush (v := 40) hx hb dX11_sort_30 (by decide) ?_
        have ev1 : v1 = (40 : Int32) := by rw [hv1]; simp only [if_neg cn11]
        exact kJ10 _ ev1 _ _ _ hw (lv_sub hl [0, 1, 2, 3] rfl)
      · refine lv_bipush (v := 9) hx hb dX11_sort_25 (by decide) ?_
        refine lv_goto (tgt := 32) hx hb dX11_sort_27 (by decide) ?_
        have ev1 : v1 = (9 : Int32) := by rw [hv1]; simp only [if_pos cn11]
        exact kJ10 _ ev1 _ _ _ hw (lv_sub hl [0, 1, 2, 3] rfl)
  · have hf := (if_neg cn5).symm.trans hf
    refine lv_iconst (v := (-1)) hx hb dX11_sort_7 (by decide) ?_
    obtain ⟨rfl, rfl⟩ := pr2_some hf
    exact hQ _ _ _ _ dX11_sort_8 hw
def xf_X_sit (N : Nat) (S : xS) (a1 : Int32) (a2 : Int32) (a3 : Int32) : Option (Int32 × xS) := (bd1 (xf_H_rowWith N S a1 a2) fun v1 => (if v1 < 0 then some ((-1), S) else (if (xf_X_isSort a3) = true then (if v1.toNatClampNeg < S.2.2.1 then (if ok a2 8 then some (S.1 (80 + 4 * v1.toNatClampNeg) a2.toNatClampNeg, xs S (80 + 4 * v1.toNatClampNeg) a2.toNatClampNeg a3) else none) else none) else some ((-2), S))))
set_option maxRecDepth 100000 in
theorem cx_X_sit (l : Launch) (N : Nat) (S : xS) (a1 : Int32) (a2 : Int32) (a3 : Int32) (res : Int32) (S1 : xS) (hf : xf_X_sit N S a1 a2 a3 = some (res, S1)) : xMi l yX11_sit cX11_sit 6 .int 4 (fun g => [.ref (xr g 0), .int a1, .int a2, .int a3]) S res S1 := by
  refine xMi_of (own := RX11) (by decide) rfl rfl (fun g => Nat.le_of_ble_eq_true rfl) ?_
  intro p e R s m args below meth c Q g A H0 H locs ls hc hR hml hw hl hQ
  have hl : lv_has ls 6 [(0, .ref (xr g 0)), (1, .int a1), (2, .int a2), (3, .int a3)] := hl
  have hx := hc.1
  have hb := hc.2.1
  unfold xf_X_sit at hf
  refine lv_aload_n hx hb dX11_sit_0 rfl (lv_at hl 0 rfl) ?_
  refine x_g_this_hall hc hw fl_11_10 dX11_sit_1 ?_
  refine lv_iload_n hx hb dX11_sit_4 rfl (lv_at hl 1 rfl) ?_
  refine lv_iload_n hx hb dX11_sit_5 rfl (lv_at hl 2 rfl) ?_
  obtain ⟨v1, hcall, hf⟩ := bd1_some hf
  refine x_cvr (As := [.int a1, .int a2]) (rest := []) hc hw hR (hml.trans hl.1.symm) (cx_H_rowWith l N S a1 a2 v1 hcall) xq_11_H_rowWith (x_recv_hall hw) (by decide) rfl rfl rfl (Nat.le_of_ble_eq_true rfl) dX11_sit_6 (fun H locs hw => ?_) ⟨Nat.zero_le _, Nat.zero_le _⟩
  refine x_splitr (fun cn2 => ?_) (fun cn2 => ?_)
  · have hf := (if_pos cn2).symm.trans hf
    refine lv_astoreN (lv' := [(4, .null), (0, .ref (xr g 0)), (1, .int a1), (2, .int a2), (3, .int a3)]) hx hb dX11_sit_9 hl (by decide) rfl (fun ls hl => ?_)
    refine lv_aloadN hx hb dX11_sit_11 (lv_at hl 0 rfl) ?_
    refine lv_ifnonnullN hx hb dX11_sit_13 ?_
    refine lv_iconst (v := (-1)) hx hb dX11_sit_16 (by decide) ?_
    obtain ⟨rfl, rfl⟩ := pr2_some hf
    exact hQ _ _ _ _ dX11_sit_17 hw
  · have hf := (if_neg cn2).symm.trans hf
    refine lv_astore (lv' := [(4, .ref (xr g (100 + 2 * v1.toNatClampNeg))), (0, .ref (xr g 0)), (1, .int a1), (2, .int a2), (3, .int a3)]) hx hb dX11_sit_9 hl (by decide) rfl (fun ls hl => ?_)
    refine lv_aload hx hb dX11_sit_11 (lv_at hl 0 rfl) ?_
    refine lv_ifnonnull (tgt := 18) hx hb dX11_sit_13 (by decide) ?_
    refine lv_iload_n hx hb dX11_sit_18 rfl (lv_at hl 4 rfl) ?_
    refine x_csi (As := [.int a3]) (rest := []) hc hw hR (hml.trans hl.1.symm) (cx_X_isSort l S a3 _ rfl) xq_11_X_isSort (by decide) rfl rfl rfl (Nat.le_of_ble_eq_true rfl) dX11_sit_19 (fun H locs hw => ?_) ⟨Nat.zero_le _, Nat.zero_le _⟩
    refine lv_if_neb (tgt := 28) hx hb dX11_sit_22 (by decide) (fun cn5 => ?_) (fun cn5 => ?_)
    · have hf := (if_pos cn5).symm.trans hf
      refine lv_aload hx hb dX11_sit_28 (lv_at hl 0 rfl) ?_
      obtain ⟨hr3, hf⟩ := gd_some hf
      refine x_rg_sorts hc hw hr3 fl_11_160 dX11_sit_30 ?_
      refine lv_iload_n hx hb dX11_sit_33 rfl (lv_at hl 3 rfl) ?_
      obtain ⟨hi4, hf⟩ := gd_some hf
      refine x_l_sorts hc hw hr3 (ok_in hi4) dX11_sit_34 ?_
      refine lv_istore (lv' := [(5, .int (S.1 (80 + 4 * v1.toNatClampNeg) a2.toNatClampNeg)), (4, .ref (xr g (100 + 2 * v1.toNatClampNeg))), (0, .ref (xr g 0)), (1, .int a1), (2, .int a2), (3, .int a3)]) hx hb dX11_sit_35 hl (by decide) rfl (fun ls hl => ?_)
      refine lv_aload hx hb dX11_sit_37 (lv_at hl 1 rfl) ?_
      refine x_rg_sorts hc hw hr3 fl_11_160 dX11_sit_39 ?_
      refine lv_iload_n hx hb dX11_sit_42 rfl (lv_at hl 4 rfl) ?_
      refine lv_iload_n hx hb dX11_sit_43 rfl (lv_at hl 5 rfl) ?_
      refine x_s_sorts hc hw hr3 (ok_in hi4) dX11_sit_44 (fun H locs hw => ?_)
      refine lv_iload hx hb dX11_sit_45 (lv_at hl 0 rfl) ?_
      obtain ⟨rfl, rfl⟩ := pr2_some hf
      exact hQ _ _ _ _ dX11_sit_47 hw
    · have hf := (if_neg cn5).symm.trans hf
      refine lv_bipush (v := (-2)) hx hb dX11_sit_25 (by decide) ?_
      obtain ⟨rfl, rfl⟩ := pr2_some hf
      exact hQ _ _ _ _ dX11_sit_27 hw
def xf_X_told (N : Nat) (S : xS) (a1 : Int32) (a2 : Int32) (a3 : Int32) : Option (Int32) := (bd1 (xf_H_rowWith N S a1 a2) fun v1 => (if v1 < 0 then some (-5) else (if a3 = 0 then (if v1.toNatClampNeg < S.2.2.1 then some (S.1 54 v1.toNatClampNeg) else none) else (if a3 = 1 then (if v1.toNatClampNeg < S.2.2.1 then (bd1 (xf_W_placeOf N S v1 a2) fun v5 => some v5) else none) else (if a3 = 2 then (if v1.toNatClampNeg < S.2.2.1 then (bd1 (xf_W_floor N S v1) fun v7 => some v7) else none) else (if a3 = 3 then (if v1.toNatClampNeg < S.2.2.1 then some (S.1 61 v1.toNatClampNeg) else none) else (if a3 = 4 then (if v1.toNatClampNeg < S.2.2.1 then (if ok a2 8 then some (S.1 (80 + 4 * v1.toNatClampNeg) a2.toNatClampNeg) else none) else none) else (if a3 = 5 then (bd1 (xf_H_eyesOf N S v1 a2) fun v11 => some v11) else (if a3 = 6 then (bd1 (xf_H_topOf N S v1 a2) fun v12 => some v12) else (if a3 = 7 then (if v1.toNatClampNeg < S.2.2.1 then (if (S.1 63 v1.toNatClampNeg) = 0 then some 0 else some 1) else none) else some (-7)))))))))))
set_option maxRecDepth 100000 in
theorem cx_X_told (l : Launch) (N : Nat) (S : xS) (a1 : Int32) (a2 : Int32) (a3 : Int32) (res : Int32) (hf : xf_X_told N S a1 a2 a3 = some res) : xMi l yX11_told cX11_told 5 .int 4 (fun g => [.ref (xr g 0), .int a1, .int a2, .int a3]) S res S := by
  refine xMi_of (own := RX11) (by decide) rfl rfl (fun g => Nat.le_of_ble_eq_true rfl) ?_
  intro p e R s m args below meth c Q g A H0 H locs ls hc hR hml hw hl hQ
  have hl : lv_has ls 5 [(0, .ref (xr g 0)), (1, .int a1), (2, .int a2), (3, .int a3)] := hl
  have hx := hc.1
  have hb := hc.2.1
  unfold xf_X_told at hf
  refine lv_aload_n hx hb dX11_told_0 rfl (lv_at hl 0 rfl) ?_
  refine x_g_this_hall hc hw fl_11_10 dX11_told_1 ?_
  refine lv_iload_n hx hb dX11_told_4 rfl (lv_at hl 1 rfl) ?_
  refine lv_iload_n hx hb dX11_told_5 rfl (lv_at hl 2 rfl) ?_
  obtain ⟨v1, hcall, hf⟩ := bd1_some hf
  refine x_cvr (As := [.int a1, .int a2]) (rest := []) hc hw hR (hml.trans hl.1.symm) (cx_H_rowWith l N S a1 a2 v1 hcall) xq_11_H_rowWith (x_recv_hall hw) (by decide) rfl rfl rfl (Nat.le_of_ble_eq_true rfl) dX11_told_6 (fun H locs hw => ?_) ⟨Nat.zero_le _, Nat.zero_le _⟩
  refine x_splitr (fun cn2 => ?_) (fun cn2 => ?_)
  · have hf := (if_pos cn2).symm.trans hf
    refine lv_astoreN (lv' := [(4, .null), (0, .ref (xr g 0)), (1, .int a1), (2, .int a2), (3, .int a3)]) hx hb dX11_told_9 hl (by decide) rfl (fun ls hl => ?_)
    refine lv_aloadN hx hb dX11_told_11 (lv_at hl 0 rfl) ?_
    refine lv_ifnonnullN hx hb dX11_told_13 ?_
    refine lv_bipush (v := (-5)) hx hb dX11_told_16 (by decide) ?_
    obtain rfl := Option.some.inj hf
    exact hQ _ _ _ _ dX11_told_18 hw
  · have hf := (if_neg cn2).symm.trans hf
    refine lv_astore (lv' := [(4, .ref (xr g (100 + 2 * v1.toNatClampNeg))), (0, .ref (xr g 0)), (1, .int a1), (2, .int a2), (3, .int a3)]) hx hb dX11_told_9 hl (by decide) rfl (fun ls hl => ?_)
    refine lv_aload hx hb dX11_told_11 (lv_at hl 0 rfl) ?_
    refine lv_ifnonnull (tgt := 19) hx hb dX11_told_13 (by decide) ?_
    refine lv_iload_n hx hb dX11_told_19 rfl (lv_at hl 4 rfl) ?_
    by_cases cn14 : a3 = 0
    · have hf := (if_pos cn14).symm.trans hf
      refine lv_tableIn (tgt := 68) (off := 48) hx hb dX11_told_20 (by rw [cn14]; decide) (by rw [cn14]; decide) (by rw [cn14]; decide) (by decide) ?_
      refine lv_aload hx hb dX11_told_68 (lv_at hl 0 rfl) ?_
      obtain ⟨hr3, hf⟩ := gd_some hf
      refine x_rg_kind hc hw hr3 fl_11_163 dX11_told_70 ?_
      obtain rfl := Option.some.inj hf
      exact hQ _ _ _ _ dX11_told_73 hw
    have hf := (if_neg cn14).symm.trans hf
    by_cases cn15 : a3 = 1
    · have hf := (if_pos cn15).symm.trans hf
      refine lv_tableIn (tgt := 74) (off := 54) hx hb dX11_told_20 (by rw [cn15]; decide) (by rw [cn15]; decide) (by rw [cn15]; decide) (by decide) ?_
      refine lv_aload hx hb dX11_told_74 (lv_at hl 0 rfl) ?_
      refine lv_iload_n hx hb dX11_told_76 rfl (lv_at hl 3 rfl) ?_
      obtain ⟨hr4, hf⟩ := gd_some hf
      obtain ⟨v5, hcall, hf⟩ := bd1_some hf
      refine x_cri (As := [.int a2]) (rest := []) hc hw hR (hml.trans hl.1.symm) (cx_W_placeOf l N S v1 a2 v5 hcall) xq_11_W_placeOf hr4 (by decide) rfl rfl rfl (Nat.le_of_ble_eq_true rfl) dX11_told_77 (fun H locs hw => ?_) ⟨Nat.zero_le _, Nat.zero_le _⟩
      obtain rfl := Option.some.inj hf
      exact hQ _ _ _ _ dX11_told_80 hw
    have hf := (if_neg cn15).symm.trans hf
    by_cases cn16 : a3 = 2
    · have hf := (if_pos cn16).symm.trans hf
      refine lv_tableIn (tgt := 81) (off := 61) hx hb dX11_told_20 (by rw [cn16]; decide) (by rw [cn16]; decide) (by rw [cn16]; decide) (by decide) ?_
      refine lv_aload hx hb dX11_told_81 (lv_at hl 0 rfl) ?_
      obtain ⟨hr6, hf⟩ := gd_some hf
      obtain ⟨v7, hcall, hf⟩ := bd1_some hf
      refine x_cri (As := []) (rest := []) hc hw hR (hml.trans hl.1.symm) (cx_W_floor l N S v1 v7 hcall) xq_11_W_floor hr6 (by decide) rfl rfl rfl (Nat.le_of_ble_eq_true rfl) dX11_told_83 (fun H locs hw => ?_) ⟨Nat.zero_le _, Nat.zero_le _⟩
      obtain rfl := Option.some.inj hf
      exact hQ _ _ _ _ dX11_told_86 hw
    have hf := (if_neg cn16).symm.trans hf
    by_cases cn17 : a3 = 3
    · have hf := (if_pos cn17).symm.trans hf
      refine lv_tableIn (tgt := 87) (off := 67) hx hb dX11_told_20 (by rw [cn17]; decide) (by rw [cn17]; decide) (by rw [cn17]; decide) (by decide) ?_
      refine lv_aload hx hb dX11_told_87 (lv_at hl 0 rfl) ?_
      obtain ⟨hr8, hf⟩ := gd_some hf
      refine x_rg_far hc hw hr8 fl_11_173 dX11_told_89 ?_
      obtain rfl := Option.some.inj hf
      exact hQ _ _ _ _ dX11_told_92 hw
    have hf := (if_neg cn17).symm.trans hf
    by_cases cn18 : a3 = 4
    · have hf := (if_pos cn18).symm.trans hf
      refine lv_tableIn (tgt := 93) (off := 73) hx hb dX11_told_20 (by rw [cn18]; decide) (by rw [cn18]; decide) (by rw [cn18]; decide) (by decide) ?_
      refine lv_aload hx hb dX11_told_93 (lv_at hl 0 rfl) ?_
      obtain ⟨hr9, hf⟩ := gd_some hf
      refine x_rg_sorts hc hw hr9 fl_11_160 dX11_told_95 ?_
      refine lv_iload_n hx hb dX11_told_98 rfl (lv_at hl 3 rfl) ?_
      obtain ⟨hi10, hf⟩ := gd_some hf
      refine x_l_sorts hc hw hr9 (ok_in hi10) dX11_told_99 ?_
      obtain rfl := Option.some.inj hf
      exact hQ _ _ _ _ dX11_told_100 hw
    have hf := (if_neg cn18).symm.trans hf
    by_cases cn19 : a3 = 5
    · have hf := (if_pos cn19).symm.trans hf
      refine lv_tableIn (tgt := 101) (off := 81) hx hb dX11_told_20 (by rw [cn19]; decide) (by rw [cn19]; decide) (by rw [cn19]; decide) (by decide) ?_
      refine lv_aload_n hx hb dX11_told_101 rfl (lv_at hl 1 rfl) ?_
      refine x_g_this_hall hc hw fl_11_10 dX11_told_102 ?_
      refine lv_aload hx hb dX11_told_105 (lv_at hl 0 rfl) ?_
      refine lv_iload_n hx hb dX11_told_107 rfl (lv_at hl 3 rfl) ?_
      obtain ⟨v11, hcall, hf⟩ := bd1_some hf
      refine x_cvi (As := [.ref (xr g (100 + 2 * v1.toNatClampNeg)), .int a2]) (rest := []) hc hw hR (hml.trans hl.1.symm) (cx_H_eyesOf l N S v1 a2 v11 hcall) xq_11_H_eyesOf (x_recv_hall hw) (by decide) rfl rfl rfl (Nat.le_of_ble_eq_true rfl) dX11_told_108 (fun H locs hw => ?_) ⟨Nat.zero_le _, Nat.zero_le _⟩
      obtain rfl := Option.some.inj hf
      exact hQ _ _ _ _ dX11_told_111 hw
    have hf := (if_neg cn19).symm.trans hf
    by_cases cn20 : a3 = 6
    · have hf := (if_pos cn20).symm.trans hf
      refine lv_tableIn (tgt := 112) (off := 92) hx hb dX11_told_20 (by rw [cn20]; decide) (by rw [cn20]; decide) (by rw [cn20]; decide) (by decide) ?_
      refine lv_aload_n hx hb dX11_told_112 rfl (lv_at hl 1 rfl) ?_
      refine x_g_this_hall hc hw fl_11_10 dX11_told_113 ?_
      refine lv_aload hx hb dX11_told_116 (lv_at hl 0 rfl) ?_
      refine lv_iload_n hx hb dX11_told_118 rfl (lv_at hl 3 rfl) ?_
      obtain ⟨v12, hcall, hf⟩ := bd1_some hf
      refine x_cvi (As := [.ref (xr g (100 + 2 * v1.toNatClampNeg)), .int a2]) (rest := []) hc hw hR (hml.trans hl.1.symm) (cx_H_topOf l N S v1 a2 v12 hcall) xq_11_H_topOf (x_recv_hall hw) (by decide) rfl rfl rfl (Nat.le_of_ble_eq_true rfl) dX11_told_119 (fun H locs hw => ?_) ⟨Nat.zero_le _, Nat.zero_le _⟩
      obtain rfl := Option.some.inj hf
      exact hQ _ _ _ _ dX11_told_122 hw
    have hf := (if_neg cn20).symm.trans hf
    by_cases cn22 : a3 = 7
    · have hf := (if_pos cn22).symm.trans hf
      refine lv_tableIn (tgt := 123) (off := 103) hx hb dX11_told_20 (by rw [cn22]; decide) (by rw [cn22]; decide) (by rw [cn22]; decide) (by decide) ?_
      refine lv_aload hx hb dX11_told_123 (lv_at hl 0 rfl) ?_
      obtain ⟨hr13, hf⟩ := gd_some hf
      refine x_rg_among hc hw hr13 fl_11_183 dX11_told_125 ?_
      refine lv_if_eq (tgt := 135) hx hb dX11_told_128 (by decide) (fun cn21 => ?_) (fun cn21 => ?_)
      · have hf := (if_pos cn21).symm.trans hf
        refine lv_iconst (v := 0) hx hb dX11_told_135 (by decide) ?_
        obtain rfl := Option.some.inj hf
        exact hQ _ _ _ _ dX11_told_136 hw
      · have hf := (if_neg cn21).symm.trans hf
        refine lv_iconst (v := 1) hx hb dX11_told_131 (by decide) ?_
        refine lv_goto (tgt := 136) hx hb dX11_told_132 (by decide) ?_
        obtain rfl := Option.some.inj hf
        exact hQ _ _ _ _ dX11_told_136 hw
    have hf := (if_neg cn22).symm.trans hf
    refine lv_tableOut (tgt := 137) hx hb dX11_told_20 (by have hcn14 := sw_ne cn14 (k := 0) (by decide); have hcn15 := sw_ne cn15 (k := 1) (by decide); have hcn16 := sw_ne cn16 (k := 2) (by decide); have hcn17 := sw_ne cn17 (k := 3) (by decide); have hcn18 := sw_ne cn18 (k := 4) (by decide); have hcn19 := sw_ne cn19 (k := 5) (by decide); have hcn20 := sw_ne cn20 (k := 6) (by decide); have hcn22 := sw_ne cn22 (k := 7) (by decide); omega) (by decide) ?_
    refine lv_bipush (v := (-7)) hx hb dX11_told_137 (by decide) ?_
    obtain rfl := Option.some.inj hf
    exact hQ _ _ _ _ dX11_told_139 hw
def xf_X_post (N : Nat) (S : xS) (a1 : Int32) (a2 : Int32) : Option (Int32 × xS) := (if (xf_X_isPostPlace a1 a2) = true then (if (S.1 18 0) < 4 then (if ok (S.1 18 0) 4 then some (S.1 18 0, xs (xs (xs S 14 (S.1 18 0).toNatClampNeg a1) 15 (S.1 18 0).toNatClampNeg a2) 18 0 (((xs (xs S 14 (S.1 18 0).toNatClampNeg a1) 15 (S.1 18 0).toNatClampNeg a2).1 18 0) + 1)) else none) else some ((-4), S)) else some ((-2), S))
set_option maxRecDepth 100000 in
theorem cx_X_post (l : Launch) (N : Nat) (S : xS) (a1 : Int32) (a2 : Int32) (res : Int32) (S1 : xS) (hf : xf_X_post N S a1 a2 = some (res, S1)) : xMi l yX11_post cX11_post 4 .int 4 (fun g => [.ref (xr g 0), .int a1, .int a2]) S res S1 := by
  refine xMi_of (own := RX11) (by decide) rfl rfl (fun g => Nat.le_of_ble_eq_true rfl) ?_
  intro p e R s m args below meth c Q g A H0 H locs ls hc hR hml hw hl hQ
  have hl : lv_has ls 4 [(0, .ref (xr g 0)), (1, .int a1), (2, .int a2)] := hl
  have hx := hc.1
  have hb := hc.2.1
  unfold xf_X_post at hf
  refine lv_iload_n hx hb dX11_post_0 rfl (lv_at hl 1 rfl) ?_
  refine lv_iload_n hx hb dX11_post_1 rfl (lv_at hl 2 rfl) ?_
  refine x_csi (As := [.int a1, .int a2]) (rest := []) hc hw hR (hml.trans hl.1.symm) (cx_X_isPostPlace l S a1 a2 _ rfl) xq_11_X_isPostPlace (by decide) rfl rfl rfl (Nat.le_of_ble_eq_true rfl) dX11_post_2 (fun H locs hw => ?_) ⟨Nat.zero_le _, Nat.zero_le _⟩
  refine lv_if_neb (tgt := 11) hx hb dX11_post_5 (by decide) (fun cn2 => ?_) (fun cn2 => ?_)
  · have hf := (if_pos cn2).symm.trans hf
    refine lv_aload_n hx hb dX11_post_11 rfl (lv_at hl 0 rfl) ?_
    refine x_g_this_hall hc hw fl_11_10 dX11_post_12 ?_
    refine x_g_hall_postCount hc hw fl_11_203 dX11_post_15 ?_
    refine lv_istore_n (lv' := [(3, .int (S.1 18 0)), (0, .ref (xr g 0)), (1, .int a1), (2, .int a2)]) hx hb dX11_post_18 rfl hl (by decide) rfl (fun ls hl => ?_)
    refine lv_iload_n hx hb dX11_post_19 rfl (lv_at hl 0 rfl) ?_
    refine lv_iconst (v := 4) hx hb dX11_post_20 (by decide) ?_
    refine lv_icmp_lt (tgt := 27) hx hb dX11_post_21 (by decide) (fun cn3 => ?_) (fun cn3 => ?_)
    · have hf := (if_pos cn3).symm.trans hf
      refine lv_aload_n hx hb dX11_post_27 rfl (lv_at hl 1 rfl) ?_
      refine x_g_this_hall hc hw fl_11_10 dX11_post_28 ?_
      refine x_g_hall_postPlaces hc hw fl_11_206 dX11_post_31 ?_
      refine lv_iload_n hx hb dX11_post_34 rfl (lv_at hl 0 rfl) ?_
      refine lv_iload_n hx hb dX11_post_35 rfl (lv_at hl 2 rfl) ?_
      obtain ⟨hi1, hf⟩ := gd_some hf
      refine x_s_hall_postPlaces hc hw (ok_in hi1) dX11_post_36 (fun H locs hw => ?_)
      refine lv_aload_n hx hb dX11_post_37 rfl (lv_at hl 1 rfl) ?_
      refine x_g_this_hall hc hw fl_11_10 dX11_post_38 ?_
      refine x_g_hall_postFars hc hw fl_11_209 dX11_post_41 ?_
      refine lv_iload_n hx hb dX11_post_44 rfl (lv_at hl 0 rfl) ?_
      refine lv_iload_n hx hb dX11_post_45 rfl (lv_at hl 3 rfl) ?_
      refine x_s_hall_postFars hc hw (ok_in hi1) dX11_post_46 (fun H locs hw => ?_)
      refine lv_aload_n hx hb dX11_post_47 rfl (lv_at hl 1 rfl) ?_
      refine x_g_this_hall hc hw fl_11_10 dX11_post_48 ?_
      refine lv_dup hx hb dX11_post_51 rfl ?_
      refine x_g_hall_postCount hc hw fl_11_203 dX11_post_52 ?_
      refine lv_iconst (v := 1) hx hb dX11_post_55 (by decide) ?_
      refine lv_iadd hx hb dX11_post_56 ?_
      refine x_p_hall_postCount hc hw fl_11_203 dX11_post_57 (fun H locs hw => ?_)
      refine lv_iload_n hx hb dX11_post_60 rfl (lv_at hl 0 rfl) ?_
      obtain ⟨rfl, rfl⟩ := pr2_some hf
      exact hQ _ _ _ _ dX11_post_61 hw
    · have hf := (if_neg cn3).symm.trans hf
      refine lv_bipush (v := (-4)) hx hb dX11_post_24 (by decide) ?_
      obtain ⟨rfl, rfl⟩ := pr2_some hf
      exact hQ _ _ _ _ dX11_post_26 hw
  · have hf := (if_neg cn2).symm.trans hf
    refine lv_bipush (v := (-2)) hx hb dX11_post_8 (by decide) ?_
    obtain ⟨rfl, rfl⟩ := pr2_some hf
    exact hQ _ _ _ _ dX11_post_10 hw
def xf_X_moves (N : Nat) (S : xS) (a1 : Int32) (a2 : Int32) (a3 : Int32) : Option (Int32 × xS) := (if (xf_X_isPost S a1) = true then (if (xf_X_isPostPlace a2 a3) = true then (if ok a1 4 then some ((100 * (S.1 14 a1.toNatClampNeg)) + (S.1 15 a1.toNatClampNeg), xs (xs S 14 a1.toNatClampNeg a2) 15 a1.toNatClampNeg a3) else none) else some ((-2), S)) else some ((-1), S))
set_option maxRecDepth 100000 in
theorem cx_X_moves (l : Launch) (N : Nat) (S : xS) (a1 : Int32) (a2 : Int32) (a3 : Int32) (res : Int32) (S1 : xS) (hf : xf_X_moves N S a1 a2 a3 = some (res, S1)) : xMi l yX11_moves cX11_moves 5 .int 4 (fun g => [.ref (xr g 0), .int a1, .int a2, .int a3]) S res S1 := by
  refine xMi_of (own := RX11) (by decide) rfl rfl (fun g => Nat.le_of_ble_eq_true rfl) ?_
  intro p e R s m args below meth c Q g A H0 H locs ls hc hR hml hw hl hQ
  have hl : lv_has ls 5 [(0, .ref (xr g 0)), (1, .int a1), (2, .int a2), (3, .int a3)] := hl
  have hx := hc.1
  have hb := hc.2.1
  unfold xf_X_moves at hf
  refine lv_aload_n hx hb dX11_moves_0 rfl (lv_at hl 0 rfl) ?_
  refine lv_iload_n hx hb dX11_moves_1 rfl (lv_at hl 1 rfl) ?_
  refine x_cvi (As := [.int a1]) (rest := []) hc hw hR (hml.trans hl.1.symm) (cx_X_isPost l S a1 _ rfl) xq_11_X_isPost (x_recv_this hw) (by decide) rfl rfl rfl (Nat.le_of_ble_eq_true rfl) dX11_moves_2 (fun H locs hw => ?_) ⟨Nat.zero_le _, Nat.zero_le _⟩
  refine lv_if_neb (tgt := 10) hx hb dX11_moves_5 (by decide) (fun cn2 => ?_) (fun cn2 => ?_)
  · have hf := (if_pos cn2).symm.trans hf
    refine lv_iload_n hx hb dX11_moves_10 rfl (lv_at hl 2 rfl) ?_
    refine lv_iload_n hx hb dX11_moves_11 rfl (lv_at hl 3 rfl) ?_
    refine x_csi (As := [.int a2, .int a3]) (rest := []) hc hw hR (hml.trans hl.1.symm) (cx_X_isPostPlace l S a2 a3 _ rfl) xq_11_X_isPostPlace (by decide) rfl rfl rfl (Nat.le_of_ble_eq_true rfl) dX11_moves_12 (fun H locs hw => ?_) ⟨Nat.zero_le _, Nat.zero_le _⟩
    refine lv_if_neb (tgt := 21) hx hb dX11_moves_15 (by decide) (fun cn3 => ?_) (fun cn3 => ?_)
    · have hf := (if_pos cn3).symm.trans hf
      refine lv_bipush (v := 100) hx hb dX11_moves_21 (by decide) ?_
      refine lv_aload_n hx hb dX11_moves_23 rfl (lv_at hl 0 rfl) ?_
      refine x_g_this_hall hc hw fl_11_10 dX11_moves_24 ?_
      refine x_g_hall_postPlaces hc hw fl_11_206 dX11_moves_27 ?_
      refine lv_iload_n hx hb dX11_moves_30 rfl (lv_at hl 1 rfl) ?_
      obtain ⟨hi1, hf⟩ := gd_some hf
      refine x_l_hall_postPlaces hc hw (ok_in hi1) dX11_moves_31 ?_
      refine lv_imul hx hb dX11_moves_32 ?_
      refine lv_aload_n hx hb dX11_moves_33 rfl (lv_at hl 0 rfl) ?_
      refine x_g_this_hall hc hw fl_11_10 dX11_moves_34 ?_
      refine x_g_hall_postFars hc hw fl_11_209 dX11_moves_37 ?_
      refine lv_iload_n hx hb dX11_moves_40 rfl (lv_at hl 1 rfl) ?_
      refine x_l_hall_postFars hc hw (ok_in hi1) dX11_moves_41 ?_
      refine lv_iadd hx hb dX11_moves_42 ?_
      refine lv_istore (lv' := [(4, .int ((100 * (S.1 14 a1.toNatClampNeg)) + (S.1 15 a1.toNatClampNeg))), (0, .ref (xr g 0)), (1, .int a1), (2, .int a2), (3, .int a3)]) hx hb dX11_moves_43 hl (by decide) rfl (fun ls hl => ?_)
      refine lv_aload_n hx hb dX11_moves_45 rfl (lv_at hl 1 rfl) ?_
      refine x_g_this_hall hc hw fl_11_10 dX11_moves_46 ?_
      refine x_g_hall_postPlaces hc hw fl_11_206 dX11_moves_49 ?_
      refine lv_iload_n hx hb dX11_moves_52 rfl (lv_at hl 2 rfl) ?_
      refine lv_iload_n hx hb dX11_moves_53 rfl (lv_at hl 3 rfl) ?_
      refine x_s_hall_postPlaces hc hw (ok_in hi1) dX11_moves_54 (fun H locs hw => ?_)
      refine lv_aload_n hx hb dX11_moves_55 rfl (lv_at hl 1 rfl) ?_
      refine x_g_this_hall hc hw fl_11_10 dX11_moves_56 ?_
      refine x_g_hall_postFars hc hw fl_11_209 dX11_moves_59 ?_
      refine lv_iload_n hx hb dX11_moves_62 rfl (lv_at hl 2 rfl) ?_
      refine lv_iload_n hx hb dX11_moves_63 rfl (lv_at hl 4 rfl) ?_
      refine x_s_hall_postFars hc hw (ok_in hi1) dX11_moves_64 (fun H locs hw => ?_)
      refine lv_iload hx hb dX11_moves_65 (lv_at hl 0 rfl) ?_
      obtain ⟨rfl, rfl⟩ := pr2_some hf
      exact hQ _ _ _ _ dX11_moves_67 hw
    · have hf := (if_neg cn3).symm.trans hf
      refine lv_bipush (v := (-2)) hx hb dX11_moves_18 (by decide) ?_
      obtain ⟨rfl, rfl⟩ := pr2_some hf
      exact hQ _ _ _ _ dX11_moves_20 hw
  · have hf := (if_neg cn2).symm.trans hf
    refine lv_iconst (v := (-1)) hx hb dX11_moves_8 (by decide) ?_
    obtain ⟨rfl, rfl⟩ := pr2_some hf
    exact hQ _ _ _ _ dX11_moves_9 hw
def xf_X_refusalOfRises (N : Nat) (S : xS) (a1 : Int32) : Option (Int32) := (bd1 (xf_X_refusalOfSheet N S a1) fun v1 => (if v1 = 0 then (if ok a1 4 then (if (S.1 5 a1.toNatClampNeg) = (S.1 16 0) then some 0 else some (-2)) else none) else some v1))
set_option maxRecDepth 100000 in
theorem cx_X_refusalOfRises (l : Launch) (N : Nat) (S : xS) (a1 : Int32) (res : Int32) (hf : xf_X_refusalOfRises N S a1 = some res) : xMi l yX11_refusalOfRises cX11_refusalOfRises 3 .int 4 (fun g => [.ref (xr g 0), .int a1]) S res S := by
  refine xMi_of (own := RX11) (by decide) rfl rfl (fun g => Nat.le_of_ble_eq_true rfl) ?_
  intro p e R s m args below meth c Q g A H0 H locs ls hc hR hml hw hl hQ
  have hl : lv_has ls 3 [(0, .ref (xr g 0)), (1, .int a1)] := hl
  have hx := hc.1
  have hb := hc.2.1
  unfold xf_X_refusalOfRises at hf
  refine lv_aload_n hx hb dX11_refusalOfRises_0 rfl (lv_at hl 0 rfl) ?_
  refine lv_iload_n hx hb dX11_refusalOfRises_1 rfl (lv_at hl 1 rfl) ?_
  obtain ⟨v1, hcall, hf⟩ := bd1_some hf
  refine x_cvi (As := [.int a1]) (rest := []) hc hw hR (hml.trans hl.1.symm) (cx_X_refusalOfSheet l N S a1 v1 hcall) xq_11_X_refusalOfSheet (x_recv_this hw) (by decide) rfl rfl rfl (Nat.le_of_ble_eq_true rfl) dX11_refusalOfRises_2 (fun H locs hw => ?_) ⟨Nat.zero_le _, Nat.zero_le _⟩
  refine lv_istore_n (lv' := [(2, .int v1), (0, .ref (xr g 0)), (1, .int a1)]) hx hb dX11_refusalOfRises_5 rfl hl (by decide) rfl (fun ls hl => ?_)
  refine lv_iload_n hx hb dX11_refusalOfRises_6 rfl (lv_at hl 0 rfl) ?_
  refine lv_if_eq (tgt := 12) hx hb dX11_refusalOfRises_7 (by decide) (fun cn3 => ?_) (fun cn3 => ?_)
  · have hf := (if_pos cn3).symm.trans hf
    refine lv_aload_n hx hb dX11_refusalOfRises_12 rfl (lv_at hl 1 rfl) ?_
    refine x_g_this_sheetSizes hc hw fl_11_59 dX11_refusalOfRises_13 ?_
    refine lv_iload_n hx hb dX11_refusalOfRises_16 rfl (lv_at hl 2 rfl) ?_
    obtain ⟨hi2, hf⟩ := gd_some hf
    refine x_l_this_sheetSizes hc hw (ok_in hi2) dX11_refusalOfRises_17 ?_
    refine lv_aload_n hx hb dX11_refusalOfRises_18 rfl (lv_at hl 1 rfl) ?_
    refine x_g_this_hall hc hw fl_11_10 dX11_refusalOfRises_19 ?_
    refine x_g_hall_rowCount hc hw fl_11_113 dX11_refusalOfRises_22 ?_
    refine lv_icmp_ne (tgt := 32) hx hb dX11_refusalOfRises_25 (by decide) (fun cn4 => ?_) (fun cn4 => ?_)
    · have hf := (if_neg cn4).symm.trans hf
      refine lv_bipush (v := (-2)) hx hb dX11_refusalOfRises_32 (by decide) ?_
      obtain rfl := Option.some.inj hf
      exact hQ _ _ _ _ dX11_refusalOfRises_34 hw
    · have hf := (if_pos cn4).symm.trans hf
      refine lv_iconst (v := 0) hx hb dX11_refusalOfRises_28 (by decide) ?_
      refine lv_goto (tgt := 34) hx hb dX11_refusalOfRises_29 (by decide) ?_
      obtain rfl := Option.some.inj hf
      exact hQ _ _ _ _ dX11_refusalOfRises_34 hw
  · have hf := (if_neg cn3).symm.trans hf
    refine lv_iload_n hx hb dX11_refusalOfRises_10 rfl (lv_at hl 0 rfl) ?_
    obtain rfl := Option.some.inj hf
    exact hQ _ _ _ _ dX11_refusalOfRises_11 hw
def xf_X_image (N : Nat) (S : xS) : Option (Int32 × xS) := (bd1 (xf_I_keep N S (S.1 1 0)) fun S1 => some (S1.1 16 0, S1))
set_option maxRecDepth 100000 in
theorem cx_X_image (l : Launch) (N : Nat) (S : xS) (res : Int32) (S1 : xS) (hf : xf_X_image N S = some (res, S1)) : xMi l yX11_image cX11_image 1 .int 4 (fun g => [.ref (xr g 0)]) S res S1 := by
  refine xMi_of (own := RX11) (by decide) rfl rfl (fun g => Nat.le_of_ble_eq_true rfl) ?_
  intro p e R s m args below meth c Q g A H0 H locs ls hc hR hml hw hl hQ
  have hl : lv_has ls 1 [(0, .ref (xr g 0))] := hl
  have hx := hc.1
  have hb := hc.2.1
  unfold xf_X_image at hf
  refine lv_aload_n hx hb dX11_image_0 rfl (lv_at hl 0 rfl) ?_
  refine x_g_this_kept hc hw fl_11_19 dX11_image_1 ?_
  refine lv_aload_n hx hb dX11_image_4 rfl (lv_at hl 0 rfl) ?_
  refine x_g_this_hall hc hw fl_11_10 dX11_image_5 ?_
  refine lv_aload_n hx hb dX11_image_8 rfl (lv_at hl 0 rfl) ?_
  refine x_g_this_lawNumber hc hw fl_11_44 dX11_image_9 ?_
  obtain ⟨S1, hcall, hf⟩ := bd1_some hf
  refine x_cvv (As := [.ref (xr g 1), .int (S.1 1 0)]) (rest := []) hc hw hR (hml.trans hl.1.symm) (cx_I_keep l N S (S.1 1 0) S1 hcall) xq_11_I_keep (x_recv_image hw) (by decide) rfl rfl rfl (Nat.le_of_ble_eq_true rfl) dX11_image_12 (fun H locs hw => ?_) ⟨Nat.zero_le _, Nat.zero_le _⟩
  refine lv_aload_n hx hb dX11_image_15 rfl (lv_at hl 0 rfl) ?_
  refine x_g_this_hall hc hw fl_11_10 dX11_image_16 ?_
  refine x_g_hall_rowCount hc hw fl_11_113 dX11_image_19 ?_
  obtain ⟨rfl, rfl⟩ := pr2_some hf
  exact hQ _ _ _ _ dX11_image_22 hw
def xf_X_cell (N : Nat) (S : xS) (a1 : Int32) (a2 : Int32) (a3 : Int32) : Option (Int32 × xS) := (bd1 (xf_X_refusalOfSheet N S a1) fun v1 => (if v1 = 0 then (if a2 < 0 then some ((-12), S) else (if ok a1 4 then (if a2 < (S.1 5 a1.toNatClampNeg) then (if (S.1 4 a1.toNatClampNeg) = 0 then (if ok a2 60 then some (1, xs S (70 + a1.toNatClampNeg) a2.toNatClampNeg a3.toInt8.toInt32) else none) else (if (S.1 4 a1.toNatClampNeg) = 1 then (if ok a2 60 then some (1, xs S (70 + a1.toNatClampNeg) a2.toNatClampNeg a3.toInt16.toInt32) else none) else (if ok a2 60 then some (1, xs S (70 + a1.toNatClampNeg) a2.toNatClampNeg a3) else none))) else some ((-12), S)) else none)) else some (v1, S)))
set_option maxRecDepth 100000 in
theorem cx_X_cell (l : Launch) (N : Nat) (S : xS) (a1 : Int32) (a2 : Int32) (a3 : Int32) (res : Int32) (S1 : xS) (hf : xf_X_cell N S a1 a2 a3 = some (res, S1)) : xMi l yX11_cell cX11_cell 5 .int 4 (fun g => [.ref (xr g 0), .int a1, .int a2, .int a3]) S res S1 := by
  refine xMi_of (own := RX11) (by decide) rfl rfl (fun g => Nat.le_of_ble_eq_true rfl) ?_
  intro p e R s m args below meth c Q g A H0 H locs ls hc hR hml hw hl hQ
  have hl : lv_has ls 5 [(0, .ref (xr g 0)), (1, .int a1), (2, .int a2), (3, .int a3)] := hl
  have hx := hc.1
  have hb := hc.2.1
  unfold xf_X_cell at hf
  refine lv_aload_n hx hb dX11_cell_0 rfl (lv_at hl 0 rfl) ?_
  refine lv_iload_n hx hb dX11_cell_1 rfl (lv_at hl 1 rfl) ?_
  obtain ⟨v1, hcall, hf⟩ := bd1_some hf
  refine x_cvi (As := [.int a1]) (rest := []) hc hw hR (hml.trans hl.1.symm) (cx_X_refusalOfSheet l N S a1 v1 hcall) xq_11_X_refusalOfSheet (x_recv_this hw) (by decide) rfl rfl rfl (Nat.le_of_ble_eq_true rfl) dX11_cell_2 (fun H locs hw => ?_) ⟨Nat.zero_le _, Nat.zero_le _⟩
  refine lv_istore (lv' := [(4, .int v1), (0, .ref (xr g 0)), (1, .int a1), (2, .int a2), (3, .int a3)]) hx hb dX11_cell_5 hl (by decide) rfl (fun ls hl => ?_)
  refine lv_iload hx hb dX11_cell_7 (lv_at hl 0 rfl) ?_
  refine lv_if_eq (tgt := 15) hx hb dX11_cell_9 (by decide) (fun cn6 => ?_) (fun cn6 => ?_)
  · have hf := (if_pos cn6).symm.trans hf
    refine lv_iload_n hx hb dX11_cell_15 rfl (lv_at hl 3 rfl) ?_
    refine lv_if_lt (tgt := 29) hx hb dX11_cell_16 (by decide) (fun cn7 => ?_) (fun cn7 => ?_)
    · have hf := (if_pos cn7).symm.trans hf
      refine lv_bipush (v := (-12)) hx hb dX11_cell_29 (by decide) ?_
      obtain ⟨rfl, rfl⟩ := pr2_some hf
      exact hQ _ _ _ _ dX11_cell_31 hw
    · have hf := (if_neg cn7).symm.trans hf
      refine lv_iload_n hx hb dX11_cell_19 rfl (lv_at hl 3 rfl) ?_
      refine lv_aload_n hx hb dX11_cell_20 rfl (lv_at hl 1 rfl) ?_
      refine x_g_this_sheetSizes hc hw fl_11_59 dX11_cell_21 ?_
      refine lv_iload_n hx hb dX11_cell_24 rfl (lv_at hl 2 rfl) ?_
      obtain ⟨hi2, hf⟩ := gd_some hf
      refine x_l_this_sheetSizes hc hw (ok_in hi2) dX11_cell_25 ?_
      refine lv_icmp_lt (tgt := 32) hx hb dX11_cell_26 (by decide) (fun cn8 => ?_) (fun cn8 => ?_)
      · have hf := (if_pos cn8).symm.trans hf
        refine lv_aload_n hx hb dX11_cell_32 rfl (lv_at hl 1 rfl) ?_
        refine x_g_this_cells hc hw fl_11_52 dX11_cell_33 ?_
        refine lv_iload_n hx hb dX11_cell_36 rfl (lv_at hl 2 rfl) ?_
        refine x_l_cells hc hw (ok_in hi2) (ok_nat hi2) dX11_cell_37 ?_
        refine lv_iload_n hx hb dX11_cell_38 rfl (lv_at hl 3 rfl) ?_
        refine lv_aload_n hx hb dX11_cell_39 rfl (lv_at hl 1 rfl) ?_
        refine x_g_this_sheetSorts hc hw fl_11_55 dX11_cell_40 ?_
        refine lv_iload_n hx hb dX11_cell_43 rfl (lv_at hl 2 rfl) ?_
        refine x_l_this_sheetSorts hc hw (ok_in hi2) dX11_cell_44 ?_
        refine lv_if_ne (tgt := 53) hx hb dX11_cell_45 (by decide) (fun cn9 => ?_) (fun cn9 => ?_)
        · have hf := (if_neg cn9).symm.trans hf
          refine lv_aload_n hx hb dX11_cell_53 rfl (lv_at hl 1 rfl) ?_
          refine x_g_this_sheetSorts hc hw fl_11_55 dX11_cell_54 ?_
          refine lv_iload_n hx hb dX11_cell_57 rfl (lv_at hl 2 rfl) ?_
          refine x_l_this_sheetSorts hc hw (ok_in hi2) dX11_cell_58 ?_
          refine lv_iconst (v := 1) hx hb dX11_cell_59 (by decide) ?_
          refine lv_icmp_ne (tgt := 68) hx hb dX11_cell_60 (by decide) (fun cn10 => ?_) (fun cn10 => ?_)
          · have hf := (if_neg cn10).symm.trans hf
            refine lv_iload_n hx hb dX11_cell_68 rfl (lv_at hl 4 rfl) ?_
            obtain ⟨hi3, hf⟩ := gd_some hf
            refine x_s_sheet hc hw (ok_nat hi2) (ok_in hi3) dX11_cell_69 (fun H locs hw => ?_)
            refine lv_iconst (v := 1) hx hb dX11_cell_70 (by decide) ?_
            obtain ⟨rfl, rfl⟩ := pr2_some hf
            exact hQ _ _ _ _ dX11_cell_71 hw
          · have hf := (if_pos cn10).symm.trans hf
            refine lv_iload_n hx hb dX11_cell_63 rfl (lv_at hl 4 rfl) ?_
            refine lv_i2s hx hb dX11_cell_64 rfl ?_
            refine lv_goto (tgt := 69) hx hb dX11_cell_65 (by decide) ?_
            obtain ⟨hi4, hf⟩ := gd_some hf
            refine x_s_sheet hc hw (ok_nat hi2) (ok_in hi4) dX11_cell_69 (fun H locs hw => ?_)
            refine lv_iconst (v := 1) hx hb dX11_cell_70 (by decide) ?_
            obtain ⟨rfl, rfl⟩ := pr2_some hf
            exact hQ _ _ _ _ dX11_cell_71 hw
        · have hf := (if_pos cn9).symm.trans hf
          refine lv_iload_n hx hb dX11_cell_48 rfl (lv_at hl 4 rfl) ?_
          refine lv_i2b hx hb dX11_cell_49 rfl ?_
          refine lv_goto (tgt := 69) hx hb dX11_cell_50 (by decide) ?_
          obtain ⟨hi5, hf⟩ := gd_some hf
          refine x_s_sheet hc hw (ok_nat hi2) (ok_in hi5) dX11_cell_69 (fun H locs hw => ?_)
          refine lv_iconst (v := 1) hx hb dX11_cell_70 (by decide) ?_
          obtain ⟨rfl, rfl⟩ := pr2_some hf
          exact hQ _ _ _ _ dX11_cell_71 hw
      · have hf := (if_neg cn8).symm.trans hf
        refine lv_bipush (v := (-12)) hx hb dX11_cell_29 (by decide) ?_
        obtain ⟨rfl, rfl⟩ := pr2_some hf
        exact hQ _ _ _ _ dX11_cell_31 hw
  · have hf := (if_neg cn6).symm.trans hf
    refine lv_iload hx hb dX11_cell_12 (lv_at hl 0 rfl) ?_
    obtain ⟨rfl, rfl⟩ := pr2_some hf
    exact hQ _ _ _ _ dX11_cell_14 hw
def xf_H_layLine (N : Nat) (S : xS) (a1 : Int32) (a2 : Int32) (a3 : Int32) : Option (xS) := (if a1.toNatClampNeg < S.2.2.1 then (bd1 (xf_W_placeOf N S a1 a2) fun v2 => (bd1 (xf_H_eyesOf N S a1 a2) fun v3 => (if ok a3 6 then some (xf_L_lay S (S.1 61 a1.toNatClampNeg) v2 v3 (S.1 11 a3.toNatClampNeg) ((S.1 12 a3.toNatClampNeg) + (S.1 21 0))) else none))) else none)
set_option maxRecDepth 100000 in
theorem cx_H_layLine (l : Launch) (N : Nat) (S : xS) (a1 : Int32) (a2 : Int32) (a3 : Int32) (S1 : xS) (hf : xf_H_layLine N S a1 a2 a3 = some S1) : xMv l yX1_layLine cX1_layLine 4 4 (fun g => [.ref (xr g 1), .ref (xr g (100 + 2 * a1.toNatClampNeg)), .int a2, .int a3]) S S1 := by
  refine xMv_of (own := RX1) (by decide) rfl (fun g => Nat.le_of_ble_eq_true rfl) ?_
  intro p e R s m args below meth c Q g A H0 H locs ls hc hR hml hw hl hQ
  have hl : lv_has ls 4 [(0, .ref (xr g 1)), (1, .ref (xr g (100 + 2 * a1.toNatClampNeg))), (2, .int a2), (3, .int a3)] := hl
  have hx := hc.1
  have hb := hc.2.1
  unfold xf_H_layLine at hf
  refine lv_aload_n hx hb dX1_layLine_0 rfl (lv_at hl 0 rfl) ?_
  refine x_g_hall_line hc hw fl_1_75 dX1_layLine_1 ?_
  refine lv_aload_n hx hb dX1_layLine_4 rfl (lv_at hl 1 rfl) ?_
  obtain ⟨hr1, hf⟩ := gd_some hf
  refine x_rg_far hc hw hr1 fl_1_106 dX1_layLine_5 ?_
  refine lv_aload_n hx hb dX1_layLine_8 rfl (lv_at hl 1 rfl) ?_
  refine lv_iload_n hx hb dX1_layLine_9 rfl (lv_at hl 2 rfl) ?_
  obtain ⟨v2, hcall, hf⟩ := bd1_some hf
  refine x_cri (As := [.int a2]) (rest := [.int (S.1 61 a1.toNatClampNeg), .ref (xr g 4)]) hc hw hR (hml.trans hl.1.symm) (cx_W_placeOf l N S a1 a2 v2 hcall) xq_1_W_placeOf hr1 (by decide) rfl rfl rfl (Nat.le_of_ble_eq_true rfl) dX1_layLine_10 (fun H locs hw => ?_) ⟨Nat.zero_le _, Nat.zero_le _⟩
  refine lv_aload_n hx hb dX1_layLine_13 rfl (lv_at hl 0 rfl) ?_
  refine lv_aload_n hx hb dX1_layLine_14 rfl (lv_at hl 1 rfl) ?_
  refine lv_iload_n hx hb dX1_layLine_15 rfl (lv_at hl 2 rfl) ?_
  obtain ⟨v3, hcall, hf⟩ := bd1_some hf
  refine x_cvi (As := [.ref (xr g (100 + 2 * a1.toNatClampNeg)), .int a2]) (rest := [.int v2, .int (S.1 61 a1.toNatClampNeg), .ref (xr g 4)]) hc hw hR (hml.trans hl.1.symm) (cx_H_eyesOf l N S a1 a2 v3 hcall) xq_1_H_eyesOf (x_recv_hall hw) (by decide) rfl rfl rfl (Nat.le_of_ble_eq_true rfl) dX1_layLine_16 (fun H locs hw => ?_) ⟨Nat.zero_le _, Nat.zero_le _⟩
  refine lv_aload_n hx hb dX1_layLine_19 rfl (lv_at hl 0 rfl) ?_
  refine x_g_hall_pointPlaces hc hw fl_1_27 dX1_layLine_20 ?_
  refine lv_iload_n hx hb dX1_layLine_23 rfl (lv_at hl 3 rfl) ?_
  obtain ⟨hi4, hf⟩ := gd_some hf
  refine x_l_hall_pointPlaces hc hw (ok_in hi4) dX1_layLine_24 ?_
  refine lv_aload_n hx hb dX1_layLine_25 rfl (lv_at hl 0 rfl) ?_
  refine x_g_hall_pointHighs hc hw fl_1_30 dX1_layLine_26 ?_
  refine lv_iload_n hx hb dX1_layLine_29 rfl (lv_at hl 3 rfl) ?_
  refine x_l_hall_pointHighs hc hw (ok_in hi4) dX1_layLine_30 ?_
  refine lv_aload_n hx hb dX1_layLine_31 rfl (lv_at hl 0 rfl) ?_
  refine x_g_hall_stageLift hc hw fl_1_59 dX1_layLine_32 ?_
  refine lv_iadd hx hb dX1_layLine_35 ?_
  refine x_cvv (As := [.int (S.1 61 a1.toNatClampNeg), .int v2, .int v3, .int (S.1 11 a3.toNatClampNeg), .int ((S.1 12 a3.toNatClampNeg) + (S.1 21 0))]) (rest := []) hc hw hR (hml.trans hl.1.symm) (cx_L_lay l S (S.1 61 a1.toNatClampNeg) v2 v3 (S.1 11 a3.toNatClampNeg) ((S.1 12 a3.toNatClampNeg) + (S.1 21 0)) _ rfl) xq_1_L_lay (x_recv_line hw) (by decide) rfl rfl rfl (Nat.le_of_ble_eq_true rfl) dX1_layLine_36 (fun H locs hw => ?_) ⟨Nat.zero_le _, Nat.zero_le _⟩
  obtain rfl := Option.some.inj hf
  exact hQ _ _ _ _ dX1_layLine_39 hw
def xf_H_hidingSeat_L37 (N : Nat) (c3 : Int32) (c4 : Int32) : Nat → xS → Int32 → Int32 → Option ((Int32) ⊕ (Unit))
  | 0, _, _, _ => none
  | n + 1, S7, v5, v6 => (if c3.toNatClampNeg < S7.2.2.1 then (if (S7.1 56 c3.toNatClampNeg) ≤ v6 then some (.inr ()) else (if v5 < (-c4) then some (.inr ()) else (bm0 (if c4 < v5 then some (.inr ()) else (bd1 (xf_H_topOf N S7 c3 v6) fun v9 => (if (xf_L_isTouchedBy S7 (S7.1 61 c3.toNatClampNeg) v9) = true then some (.inl (some (.inl v6))) else some (.inr ())))) fun _ => xf_H_hidingSeat_L37 N c3 c4 n S7 (v5 - (2 * (S7.1 49 0))) (v6 + 1)))) else none)
set_option maxRecDepth 100000 in
theorem wx_H_hidingSeat_L37 {p : Program} {l : Launch} {e : Env} {R : Room} {s : State} {m : MethodId} {args : Array Value} {below : List Frame} {meth : Method} {c : Code} {Q : State → Prop} {g : xG} {A : Nat → Prop} {H0 : Heap} (hc : qC RX1 cX1_hidingSeat p s m args c) (hR : qRoom R 4) (hml : c.maxLocals = 5) (N : Nat) (c3 : Int32) (c4 : Int32) : ∀ (n : Nat) (S7 : xS) (v5 : Int32) (v6 : Int32) (X : (Int32) ⊕ (Unit)) (H : Heap) (locs : List Loc) (ls : Array Slot), xf_H_hidingSeat_L37 N c3 c4 n S7 v5 v6 = some X → xI g A H0 s S7 H locs → lv_has ls 5 [(0, .ref (xr g 1)), (1, .ref (xr g (100 + 2 * c3.toNatClampNeg))), (2, .int c4), (3, .int v5), (4, .int v6)] → (∀ (_ : Unit), X = .inr () → ∀ (H : Heap) (locs : List Loc) (ls : Array Slot), xI g A H0 s S7 H locs → lv_has ls 5 [] → W p l e R s m args below meth c H locs 0 0 Q (F0 m 99 ls [])) → (∀ (r : Int32), X = .inl r → xQi p l e R s m args below meth c cX1_hidingSeat Q g A H0 r S7) → W p l e R s m args below meth c H locs 0 0 Q (F0 m 37 ls []) := by
  have hx := hc.1
  have hb := hc.2.1
  intro n
  induction n with
  | zero => intro _ _ _ X H locs ls hf; exact nomatch (show none = some X from hf)
  | succ n ih =>
    intro S7 v5 v6 X H locs ls hf hw hl kx kr
    rw [xf_H_hidingSeat_L37] at hf
    refine lv_iload hx hb dX1_hidingSeat_37 (lv_at hl 4 rfl) ?_
    refine lv_aload_n hx hb dX1_hidingSeat_39 rfl (lv_at hl 1 rfl) ?_
    obtain ⟨hr8, hf⟩ := gd_some hf
    refine x_rg_seats hc hw hr8 fl_1_86 dX1_hidingSeat_40 ?_
    refine lv_icmp_ge (tgt := 99) hx hb dX1_hidingSeat_43 (by decide) (fun cn11 => ?_) (fun cn11 => ?_)
    · have hf := (if_pos cn11).symm.trans hf
      obtain rfl := Option.some.inj hf
      exact kx () rfl _ _ _ hw (lv_sub hl [] rfl)
    · have hf := (if_neg cn11).symm.trans hf
      refine lv_iload_n hx hb dX1_hidingSeat_46 rfl (lv_at hl 3 rfl) ?_
      refine lv_iload_n hx hb dX1_hidingSeat_47 rfl (lv_at hl 2 rfl) ?_
      refine lv_ineg hx hb dX1_hidingSeat_48 ?_
      refine lv_icmp_lt (tgt := 99) hx hb dX1_hidingSeat_49 (by decide) (fun cn12 => ?_) (fun cn12 => ?_)
      · have hf := (if_pos cn12).symm.trans hf
        obtain rfl := Option.some.inj hf
        exact kx () rfl _ _ _ hw (lv_sub hl [] rfl)
      · have hf := (if_neg cn12).symm.trans hf
        refine lv_iload_n hx hb dX1_hidingSeat_52 rfl (lv_at hl 3 rfl) ?_
        refine lv_iload_n hx hb dX1_hidingSeat_53 rfl (lv_at hl 2 rfl) ?_
        obtain ⟨Y, hX13, hf⟩ := bm0_some hf
        have kJ14 : Y = .inr () → ∀ (H : Heap) (locs : List Loc) (ls : Array Slot), xI g A H0 s S7 H locs → lv_has ls 5 [(0, .ref (xr g 1)), (1, .ref (xr g (100 + 2 * c3.toNatClampNeg))), (2, .int c4), (3, .int v5), (4, .int v6)] → W p l e R s m args below meth c H locs 0 0 Q (F0 m 81 ls []) := by
          intro  hY H locs ls hw hl
          subst hY
          have hf := bc0_r hf
          refine lv_iload_n hx hb dX1_hidingSeat_81 rfl (lv_at hl 3 rfl) ?_
          refine lv_iconst (v := 2) hx hb dX1_hidingSeat_82 (by decide) ?_
          refine lv_aload_n hx hb dX1_hidingSeat_83 rfl (lv_at hl 0 rfl) ?_
          refine x_g_hall_line hc hw fl_1_75 dX1_hidingSeat_84 ?_
          refine x_g_line_far hc hw fl_1_138 dX1_hidingSeat_87 ?_
          refine lv_imul hx hb dX1_hidingSeat_90 ?_
          refine lv_isub hx hb dX1_hidingSeat_91 ?_
          refine lv_istore_n (lv' := [(3, .int (v5 - (2 * (S7.1 49 0)))), (0, .ref (xr g 1)), (1, .ref (xr g (100 + 2 * c3.toNatClampNeg))), (2, .int c4), (4, .int v6)]) hx hb dX1_hidingSeat_92 rfl hl (by decide) rfl (fun ls hl => ?_)
          refine lv_iinc (lv' := [(4, .int (v6 + 1)), (3, .int (v5 - (2 * (S7.1 49 0)))), (0, .ref (xr g 1)), (1, .ref (xr g (100 + 2 * c3.toNatClampNeg))), (2, .int c4)]) hx hb dX1_hidingSeat_93 hl (k := 4) rfl rfl (by decide) rfl (fun ls hl => ?_)
          refine lv_goto (tgt := 37) hx hb dX1_hidingSeat_96 (by decide) ?_
          exact ih _ _ _ X _ _ _ hf hw (lv_sub hl [2, 3, 4, 1, 0] rfl) kx kr
        refine lv_icmp_gt (tgt := 81) hx hb dX1_hidingSeat_54 (by decide) (fun cn15 => ?_) (fun cn15 => ?_)
        · have hX13 := (if_pos cn15).symm.trans hX13
          exact kJ14 (Option.some.inj hX13).symm _ _ _ hw (lv_sub hl [0, 1, 2, 3, 4] rfl)
        · have hX13 := (if_neg cn15).symm.trans hX13
          refine lv_aload_n hx hb dX1_hidingSeat_57 rfl (lv_at hl 0 rfl) ?_
          refine x_g_hall_line hc hw fl_1_75 dX1_hidingSeat_58 ?_
          refine lv_aload_n hx hb dX1_hidingSeat_61 rfl (lv_at hl 1 rfl) ?_
          refine x_rg_far hc hw hr8 fl_1_106 dX1_hidingSeat_62 ?_
          refine lv_aload_n hx hb dX1_hidingSeat_65 rfl (lv_at hl 0 rfl) ?_
          refine lv_aload_n hx hb dX1_hidingSeat_66 rfl (lv_at hl 1 rfl) ?_
          refine lv_iload hx hb dX1_hidingSeat_67 (lv_at hl 4 rfl) ?_
          obtain ⟨v9, hcall, hX13⟩ := bd1_some hX13
          refine x_cvi (As := [.ref (xr g (100 + 2 * c3.toNatClampNeg)), .int v6]) (rest := [.int (S7.1 61 c3.toNatClampNeg), .ref (xr g 4)]) hc hw hR (hml.trans hl.1.symm) (cx_H_topOf l N S7 c3 v6 v9 hcall) xq_1_H_topOf (x_recv_hall hw) (by decide) rfl rfl rfl (Nat.le_of_ble_eq_true rfl) dX1_hidingSeat_69 (fun H locs hw => ?_) ⟨Nat.zero_le _, Nat.zero_le _⟩
          refine x_cvi (As := [.int (S7.1 61 c3.toNatClampNeg), .int v9]) (rest := []) hc hw hR (hml.trans hl.1.symm) (cx_L_isTouchedBy l S7 (S7.1 61 c3.toNatClampNeg) v9 _ rfl) xq_1_L_isTouchedBy (x_recv_line hw) (by decide) rfl rfl rfl (Nat.le_of_ble_eq_true rfl) dX1_hidingSeat_72 (fun H locs hw => ?_) ⟨Nat.zero_le _, Nat.zero_le _⟩
          refine lv_if_eqb (tgt := 81) hx hb dX1_hidingSeat_75 (by decide) (fun cn16 => ?_) (fun cn16 => ?_)
          · have hX13 := (if_neg cn16).symm.trans hX13
            exact kJ14 (Option.some.inj hX13).symm _ _ _ hw (lv_sub hl [0, 1, 2, 3, 4] rfl)
          · have hX13 := (if_pos cn16).symm.trans hX13
            refine lv_iload hx hb dX1_hidingSeat_78 (lv_at hl 4 rfl) ?_
            obtain rfl := Option.some.inj hX13
            have hf := bc0_l hf
            obtain rfl := Option.some.inj hf
            exact kr _  rfl _ _ _ _ dX1_hidingSeat_80 hw
def xf_H_hidingSeat (N : Nat) (S : xS) (a1 : Int32) : Option (Int32) := (if a1.toNatClampNeg < S.2.2.1 then (if (S.1 63 a1.toNatClampNeg) = 0 then some (-1) else (bd1 (xf_W_placeOf N S a1 0) fun v2 => (br0 (xf_H_hidingSeat_L37 N a1 (S.1 49 0) N S (xf_L_besides S (S.1 61 a1.toNatClampNeg) v2) 0) (Option.some) fun _ => some (-1)))) else none)
set_option maxRecDepth 100000 in
theorem cx_H_hidingSeat (l : Launch) (N : Nat) (S : xS) (a1 : Int32) (res : Int32) (hf : xf_H_hidingSeat N S a1 = some res) : xMi l yX1_hidingSeat cX1_hidingSeat 5 .int 4 (fun g => [.ref (xr g 1), .ref (xr g (100 + 2 * a1.toNatClampNeg))]) S res S := by
  refine xMi_of (own := RX1) (by decide) rfl rfl (fun g => Nat.le_of_ble_eq_true rfl) ?_
  intro p e R s m args below meth c Q g A H0 H locs ls hc hR hml hw hl hQ
  have hl : lv_has ls 5 [(0, .ref (xr g 1)), (1, .ref (xr g (100 + 2 * a1.toNatClampNeg)))] := hl
  have hx := hc.1
  have hb := hc.2.1
  unfold xf_H_hidingSeat at hf
  refine lv_aload_n hx hb dX1_hidingSeat_0 rfl (lv_at hl 1 rfl) ?_
  obtain ⟨hr1, hf⟩ := gd_some hf
  refine x_rg_among hc hw hr1 fl_1_123 dX1_hidingSeat_1 ?_
  refine lv_if_ne (tgt := 9) hx hb dX1_hidingSeat_4 (by decide) (fun cn10 => ?_) (fun cn10 => ?_)
  · have hf := (if_neg cn10).symm.trans hf
    refine lv_aload_n hx hb dX1_hidingSeat_9 rfl (lv_at hl 0 rfl) ?_
    refine x_g_hall_line hc hw fl_1_75 dX1_hidingSeat_10 ?_
    refine x_g_line_far hc hw fl_1_138 dX1_hidingSeat_13 ?_
    refine lv_istore_n (lv' := [(2, .int (S.1 49 0)), (0, .ref (xr g 1)), (1, .ref (xr g (100 + 2 * a1.toNatClampNeg)))]) hx hb dX1_hidingSeat_16 rfl hl (by decide) rfl (fun ls hl => ?_)
    refine lv_aload_n hx hb dX1_hidingSeat_17 rfl (lv_at hl 1 rfl) ?_
    refine x_g_hall_line hc hw fl_1_75 dX1_hidingSeat_18 ?_
    refine lv_aload_n hx hb dX1_hidingSeat_21 rfl (lv_at hl 2 rfl) ?_
    refine x_rg_far hc hw hr1 fl_1_106 dX1_hidingSeat_22 ?_
    refine lv_aload_n hx hb dX1_hidingSeat_25 rfl (lv_at hl 2 rfl) ?_
    refine lv_iconst (v := 0) hx hb dX1_hidingSeat_26 (by decide) ?_
    obtain ⟨v2, hcall, hf⟩ := bd1_some hf
    refine x_cri (As := [.int 0]) (rest := [.int (S.1 61 a1.toNatClampNeg), .ref (xr g 4)]) hc hw hR (hml.trans hl.1.symm) (cx_W_placeOf l N S a1 0 v2 hcall) xq_1_W_placeOf hr1 (by decide) rfl rfl rfl (Nat.le_of_ble_eq_true rfl) dX1_hidingSeat_27 (fun H locs hw => ?_) ⟨Nat.zero_le _, Nat.zero_le _⟩
    refine x_cvi (As := [.int (S.1 61 a1.toNatClampNeg), .int v2]) (rest := []) hc hw hR (hml.trans hl.1.symm) (cx_L_besides l S (S.1 61 a1.toNatClampNeg) v2 _ rfl) xq_1_L_besides (x_recv_line hw) (by decide) rfl rfl rfl (Nat.le_of_ble_eq_true rfl) dX1_hidingSeat_30 (fun H locs hw => ?_) ⟨Nat.zero_le _, Nat.zero_le _⟩
    refine lv_istore_n (lv' := [(3, .int (xf_L_besides S (S.1 61 a1.toNatClampNeg) v2)), (2, .int (S.1 49 0)), (0, .ref (xr g 1)), (1, .ref (xr g (100 + 2 * a1.toNatClampNeg)))]) hx hb dX1_hidingSeat_33 rfl hl (by decide) rfl (fun ls hl => ?_)
    refine lv_iconst (v := 0) hx hb dX1_hidingSeat_34 (by decide) ?_
    refine lv_istore (lv' := [(4, .int 0), (3, .int (xf_L_besides S (S.1 61 a1.toNatClampNeg) v2)), (2, .int (S.1 49 0)), (0, .ref (xr g 1)), (1, .ref (xr g (100 + 2 * a1.toNatClampNeg)))]) hx hb dX1_hidingSeat_35 hl (by decide) rfl (fun ls hl => ?_)
    rcases br0_some hf with ⟨q, hL, hf⟩ | ⟨hL, hf⟩
    · refine wx_H_hidingSeat_L37 hc hR hml N a1 (S.1 49 0) N _ _ _ _ _ _ _ hL hw (lv_sub hl [3, 4, 2, 1, 0] rfl) (fun _  h => nomatch h) ?_
      obtain rfl := Option.some.inj hf
      intro z0 h; cases h; exact hQ
    · refine wx_H_hidingSeat_L37 hc hR hml N a1 (S.1 49 0) N _ _ _ _ _ _ _ hL hw (lv_sub hl [3, 4, 2, 1, 0] rfl) (fun y0 hi => ?_) (fun _  h => nomatch h)
      cases hi
      intro H locs ls hw hl
      refine lv_iconst (v := (-1)) hx hb dX1_hidingSeat_99 (by decide) ?_
      obtain rfl := Option.some.inj hf
      exact hQ _ _ _ _ dX1_hidingSeat_100 hw
  · have hf := (if_pos cn10).symm.trans hf
    refine lv_iconst (v := (-1)) hx hb dX1_hidingSeat_7 (by decide) ?_
    obtain rfl := Option.some.inj hf
    exact hQ _ _ _ _ dX1_hidingSeat_8 hw
def xf_H_byLaw (N : Nat) (S : xS) (a1 : Int32) (a2 : Int32) : Option (Int32 × xS) := (if (S.1 19 0) < 0 then some ((if (0 : Int32) < (if (0 : Int32) < a2 then (0 : Int32) else a2) then ((if (0 : Int32) < a2 then (0 : Int32) else a2) : Int32) else 0), S) else (if (S.1 19 0).toNatClampNeg < S.2.2.2 then (bd2 (xf_T_run N S (S.1 19 0) a1) fun v3 S4 => some ((if (0 : Int32) < (if (v3 : Int32) < a2 then (v3 : Int32) else a2) then ((if (v3 : Int32) < a2 then (v3 : Int32) else a2) : Int32) else 0), S4)) else none))
set_option maxRecDepth 100000 in
theorem cx_H_byLaw (l : Launch) (N : Nat) (S : xS) (a1 : Int32) (a2 : Int32) (res : Int32) (S1 : xS) (hf : xf_H_byLaw N S a1 a2 = some (res, S1)) : xMi l yX1_byLaw cX1_byLaw 4 .int 4 (fun g => [.ref (xr g 1), .int a1, .int a2]) S res S1 := by
  refine xMi_of (own := RX1) (by decide) rfl rfl (fun g => Nat.le_of_ble_eq_true rfl) ?_
  intro p e R s m args below meth c Q g A H0 H locs ls hc hR hml hw hl hQ
  have hl : lv_has ls 4 [(0, .ref (xr g 1)), (1, .int a1), (2, .int a2)] := hl
  have hx := hc.1
  have hb := hc.2.1
  unfold xf_H_byLaw at hf
  refine lv_aload_n hx hb dX1_byLaw_0 rfl (lv_at hl 0 rfl) ?_
  refine x_g_hall_law hc hw fl_1_52 dX1_byLaw_1 ?_
  refine x_splitt (fun cn1 => ?_) (fun cn1 => ?_)
  · have hf := (if_pos cn1).symm.trans hf
    refine lv_ifnonnullN hx hb dX1_byLaw_4 ?_
    refine lv_iconst (v := 0) hx hb dX1_byLaw_7 (by decide) ?_
    refine lv_goto (tgt := 23) hx hb dX1_byLaw_8 (by decide) ?_
    refine lv_istore_n (lv' := [(3, .int 0), (0, .ref (xr g 1)), (1, .int a1), (2, .int a2)]) hx hb dX1_byLaw_23 rfl hl (by decide) rfl (fun ls hl => ?_)
    refine lv_iconst (v := 0) hx hb dX1_byLaw_24 (by decide) ?_
    refine lv_iload_n hx hb dX1_byLaw_25 rfl (lv_at hl 3 rfl) ?_
    refine lv_iload_n hx hb dX1_byLaw_26 rfl (lv_at hl 0 rfl) ?_
    refine x_mmin hc hR (by decide) (hml.trans hl.1.symm) xq_1_x_mmin (Nat.le_of_ble_eq_true rfl) dX1_byLaw_27 ?_ ⟨Nat.zero_le _, Nat.zero_le _⟩
    refine x_mmax hc hR (by decide) (hml.trans hl.1.symm) xq_1_x_mmax (Nat.le_of_ble_eq_true rfl) dX1_byLaw_30 ?_ ⟨Nat.zero_le _, Nat.zero_le _⟩
    obtain ⟨rfl, rfl⟩ := pr2_some hf
    exact hQ _ _ _ _ dX1_byLaw_33 hw
  · have hf := (if_neg cn1).symm.trans hf
    refine lv_ifnonnull (tgt := 11) hx hb dX1_byLaw_4 (by decide) ?_
    refine lv_aload_n hx hb dX1_byLaw_11 rfl (lv_at hl 0 rfl) ?_
    refine x_g_hall_law hc hw fl_1_52 dX1_byLaw_12 ?_
    rw [xtv_pos cn1]
    refine lv_iload_n hx hb dX1_byLaw_15 rfl (lv_at hl 1 rfl) ?_
    refine lv_aload_n hx hb dX1_byLaw_16 rfl (lv_at hl 0 rfl) ?_
    refine x_g_hall_names hc hw fl_1_79 dX1_byLaw_17 ?_
    obtain ⟨hr2, hf⟩ := gd_some hf
    obtain ⟨v3, S4, hcall, hf⟩ := bd2_some hf
    refine x_cvi (As := [.int a1, .ref (xr g 14)]) (rest := []) hc hw hR (hml.trans hl.1.symm) (cx_T_run l N S (S.1 19 0) a1 v3 S4 hcall) xq_1_T_run (x_recv_text hw hr2) (by decide) rfl rfl rfl (Nat.le_of_ble_eq_true rfl) dX1_byLaw_20 (fun H locs hw => ?_) ⟨Nat.zero_le _, Nat.zero_le _⟩
    refine lv_istore_n (lv' := [(3, .int v3), (0, .ref (xr g 1)), (1, .int a1), (2, .int a2)]) hx hb dX1_byLaw_23 rfl hl (by decide) rfl (fun ls hl => ?_)
    refine lv_iconst (v := 0) hx hb dX1_byLaw_24 (by decide) ?_
    refine lv_iload_n hx hb dX1_byLaw_25 rfl (lv_at hl 3 rfl) ?_
    refine lv_iload_n hx hb dX1_byLaw_26 rfl (lv_at hl 0 rfl) ?_
    refine x_mmin hc hR (by decide) (hml.trans hl.1.symm) xq_1_x_mmin (Nat.le_of_ble_eq_true rfl) dX1_byLaw_27 ?_ ⟨Nat.zero_le _, Nat.zero_le _⟩
    refine x_mmax hc hR (by decide) (hml.trans hl.1.symm) xq_1_x_mmax (Nat.le_of_ble_eq_true rfl) dX1_byLaw_30 ?_ ⟨Nat.zero_le _, Nat.zero_le _⟩
    obtain ⟨rfl, rfl⟩ := pr2_some hf
    exact hQ _ _ _ _ dX1_byLaw_33 hw
def xf_X_thursday_L17 (N : Nat) (c2 : Int32) : Nat → xS → Int32 → Int32 → Option (Int32)
  | 0, _, _, _ => none
  | n + 1, S5, v3, v4 => (if (S5.1 16 0) ≤ v4 then some v3 else (if ok v4 6 then (if v4.toNatClampNeg < S5.2.2.1 then (if ok c2 4 then (if ok v4 60 then (if (S5.1 57 v4.toNatClampNeg) = (S5.1 (70 + c2.toNatClampNeg) v4.toNatClampNeg) then xf_X_thursday_L17 N c2 n S5 v3 (v4 + 1) else xf_X_thursday_L17 N c2 n S5 (v3 + 1) (v4 + 1)) else none) else none) else none) else none))
set_option maxRecDepth 100000 in
theorem wx_X_thursday_L17 {p : Program} {l : Launch} {e : Env} {R : Room} {s : State} {m : MethodId} {args : Array Value} {below : List Frame} {meth : Method} {c : Code} {Q : State → Prop} {g : xG} {A : Nat → Prop} {H0 : Heap} (hc : qC RX11 cX11_thursday p s m args c) (hR : qRoom R 5) (hml : c.maxLocals = 5) (N : Nat) (c2 : Int32) : ∀ (n : Nat) (S5 : xS) (v3 : Int32) (v4 : Int32) (X : Int32) (H : Heap) (locs : List Loc) (ls : Array Slot), xf_X_thursday_L17 N c2 n S5 v3 v4 = some X → xI g A H0 s S5 H locs → lv_has ls 5 [(0, .ref (xr g 0)), (1, .int c2), (3, .int v3), (4, .int v4)] → (∀ (H : Heap) (locs : List Loc) (ls : Array Slot), xI g A H0 s S5 H locs → lv_has ls 5 [(3, .int X)] → W p l e R s m args below meth c H locs 0 0 Q (F0 m 63 ls [])) → W p l e R s m args below meth c H locs 0 0 Q (F0 m 17 ls []) := by
  have hx := hc.1
  have hb := hc.2.1
  intro n
  induction n with
  | zero => intro _ _ _ X H locs ls hf; exact nomatch (show none = some X from hf)
  | succ n ih =>
    intro S5 v3 v4 X H locs ls hf hw hl kx
    rw [xf_X_thursday_L17] at hf
    refine lv_iload hx hb dX11_thursday_17 (lv_at hl 3 rfl) ?_
    refine lv_aload_n hx hb dX11_thursday_19 rfl (lv_at hl 0 rfl) ?_
    refine x_g_this_hall hc hw fl_11_10 dX11_thursday_20 ?_
    refine x_g_hall_rowCount hc hw fl_11_113 dX11_thursday_23 ?_
    refine lv_icmp_ge (tgt := 63) hx hb dX11_thursday_26 (by decide) (fun cn12 => ?_) (fun cn12 => ?_)
    · have hf := (if_pos cn12).symm.trans hf
      obtain rfl := Option.some.inj hf
      exact kx _ _ _ hw (lv_sub hl [2] rfl)
    · have hf := (if_neg cn12).symm.trans hf
      refine lv_aload_n hx hb dX11_thursday_29 rfl (lv_at hl 0 rfl) ?_
      refine x_g_this_hall hc hw fl_11_10 dX11_thursday_30 ?_
      refine x_g_hall_rows hc hw fl_11_116 dX11_thursday_33 ?_
      refine lv_iload hx hb dX11_thursday_36 (lv_at hl 3 rfl) ?_
      obtain ⟨hi6, hf⟩ := gd_some hf
      obtain ⟨hr7, hf⟩ := gd_some hf
      refine x_l_rows hc hw (ok_in hi6) hr7 dX11_thursday_38 ?_
      refine x_rg_rise hc hw hr7 fl_11_150 dX11_thursday_39 ?_
      refine lv_aload_n hx hb dX11_thursday_42 rfl (lv_at hl 0 rfl) ?_
      refine x_g_this_cells hc hw fl_11_52 dX11_thursday_43 ?_
      refine lv_iload_n hx hb dX11_thursday_46 rfl (lv_at hl 1 rfl) ?_
      obtain ⟨hi8, hf⟩ := gd_some hf
      refine x_l_cells hc hw (ok_in hi8) (ok_nat hi8) dX11_thursday_47 ?_
      refine lv_iload hx hb dX11_thursday_48 (lv_at hl 3 rfl) ?_
      obtain ⟨hi9, hf⟩ := gd_some hf
      refine x_l_sheet hc hw (ok_nat hi8) (ok_in hi9) dX11_thursday_50 ?_
      refine lv_icmp_eq (tgt := 57) hx hb dX11_thursday_51 (by decide) (fun cn13 => ?_) (fun cn13 => ?_)
      · have hf := (if_pos cn13).symm.trans hf
        refine lv_iinc (lv' := [(4, .int (v4 + 1)), (0, .ref (xr g 0)), (1, .int c2), (3, .int v3)]) hx hb dX11_thursday_57 hl (k := 3) rfl rfl (by decide) rfl (fun ls hl => ?_)
        refine lv_goto (tgt := 17) hx hb dX11_thursday_60 (by decide) ?_
        exact ih _ _ _ X _ _ _ hf hw (lv_sub hl [1, 2, 3, 0] rfl) kx
      · have hf := (if_neg cn13).symm.trans hf
        refine lv_iinc (lv' := [(3, .int (v3 + 1)), (0, .ref (xr g 0)), (1, .int c2), (4, .int v4)]) hx hb dX11_thursday_54 hl (k := 2) rfl rfl (by decide) rfl (fun ls hl => ?_)
        refine lv_iinc (lv' := [(4, .int (v4 + 1)), (3, .int (v3 + 1)), (0, .ref (xr g 0)), (1, .int c2)]) hx hb dX11_thursday_57 hl (k := 3) rfl rfl (by decide) rfl (fun ls hl => ?_)
        refine lv_goto (tgt := 17) hx hb dX11_thursday_60 (by decide) ?_
        exact ih _ _ _ X _ _ _ hf hw (lv_sub hl [2, 3, 1, 0] rfl) kx
def xf_X_thursday (N : Nat) (S : xS) (a1 : Int32) : Option (Int32) := (bd1 (xf_X_refusalOfRises N S a1) fun v1 => (if v1 = 0 then (bd1 (xf_X_thursday_L17 N a1 N S 0 0) fun v10 => some v10) else some v1))
set_option maxRecDepth 100000 in
theorem cx_X_thursday (l : Launch) (N : Nat) (S : xS) (a1 : Int32) (res : Int32) (hf : xf_X_thursday N S a1 = some res) : xMi l yX11_thursday cX11_thursday 5 .int 5 (fun g => [.ref (xr g 0), .int a1]) S res S := by
  refine xMi_of (own := RX11) (by decide) rfl rfl (fun g => Nat.le_of_ble_eq_true rfl) ?_
  intro p e R s m args below meth c Q g A H0 H locs ls hc hR hml hw hl hQ
  have hl : lv_has ls 5 [(0, .ref (xr g 0)), (1, .int a1)] := hl
  have hx := hc.1
  have hb := hc.2.1
  unfold xf_X_thursday at hf
  refine lv_aload_n hx hb dX11_thursday_0 rfl (lv_at hl 0 rfl) ?_
  refine lv_iload_n hx hb dX11_thursday_1 rfl (lv_at hl 1 rfl) ?_
  obtain ⟨v1, hcall, hf⟩ := bd1_some hf
  refine x_cvi (As := [.int a1]) (rest := []) hc hw hR (hml.trans hl.1.symm) (cx_X_refusalOfRises l N S a1 v1 hcall) xq_11_X_refusalOfRises (x_recv_this hw) (by decide) rfl rfl rfl (Nat.le_of_ble_eq_true rfl) dX11_thursday_2 (fun H locs hw => ?_) ⟨Nat.zero_le _, Nat.zero_le _⟩
  refine lv_istore_n (lv' := [(2, .int v1), (0, .ref (xr g 0)), (1, .int a1)]) hx hb dX11_thursday_5 rfl hl (by decide) rfl (fun ls hl => ?_)
  refine lv_iload_n hx hb dX11_thursday_6 rfl (lv_at hl 0 rfl) ?_
  refine lv_if_eq (tgt := 12) hx hb dX11_thursday_7 (by decide) (fun cn11 => ?_) (fun cn11 => ?_)
  · have hf := (if_pos cn11).symm.trans hf
    refine lv_iconst (v := 0) hx hb dX11_thursday_12 (by decide) ?_
    refine lv_istore_n (lv' := [(3, .int 0), (2, .int v1), (0, .ref (xr g 0)), (1, .int a1)]) hx hb dX11_thursday_13 rfl hl (by decide) rfl (fun ls hl => ?_)
    refine lv_iconst (v := 0) hx hb dX11_thursday_14 (by decide) ?_
    refine lv_istore (lv' := [(4, .int 0), (3, .int 0), (2, .int v1), (0, .ref (xr g 0)), (1, .int a1)]) hx hb dX11_thursday_15 hl (by decide) rfl (fun ls hl => ?_)
    obtain ⟨v10, hL, hf⟩ := bd1_some hf
    refine wx_X_thursday_L17 hc hR hml N a1 N _ _ _ _ _ _ _ hL hw (lv_sub hl [3, 4, 1, 0] rfl) (fun H locs ls hw hl => ?_)
    refine lv_iload_n hx hb dX11_thursday_63 rfl (lv_at hl 0 rfl) ?_
    obtain rfl := Option.some.inj hf
    exact hQ _ _ _ _ dX11_thursday_64 hw
  · have hf := (if_neg cn11).symm.trans hf
    refine lv_iload_n hx hb dX11_thursday_10 rfl (lv_at hl 0 rfl) ?_
    obtain rfl := Option.some.inj hf
    exact hQ _ _ _ _ dX11_thursday_11 hw
def xf_X_sitters_L64 (N : Nat) (c2 : Int32) (c3 : Int32) (c4 : Int32) : Nat → xS → Int32 → Int32 → Option ((Int32 × xS) ⊕ (Int32 × xS))
  | 0, _, _, _ => none
  | n + 1, S7, v5, v6 => (if c4 ≤ v6 then some (.inr (v5, S7)) else (if ok c2 4 then (if v6 < (S7.1 5 c2.toNatClampNeg) then (if ok v6 60 then (bd2 (xf_X_sit N S7 c3 v6 (S7.1 (70 + c2.toNatClampNeg) v6.toNatClampNeg)) fun v10 S11 => (if v10 < 0 then xf_X_sitters_L64 N c2 c3 c4 n S11 v5 (v6 + 1) else xf_X_sitters_L64 N c2 c3 c4 n S11 (v5 + 1) (v6 + 1))) else none) else some (.inl ((-12), S7))) else none))
set_option maxRecDepth 100000 in
theorem wx_X_sitters_L64 {p : Program} {l : Launch} {e : Env} {R : Room} {s : State} {m : MethodId} {args : Array Value} {below : List Frame} {meth : Method} {c : Code} {Q : State → Prop} {g : xG} {A : Nat → Prop} {H0 : Heap} (hc : qC RX11 cX11_sitters p s m args c) (hR : qRoom R 5) (hml : c.maxLocals = 7) (N : Nat) (c2 : Int32) (c3 : Int32) (c4 : Int32) : ∀ (n : Nat) (S7 : xS) (v5 : Int32) (v6 : Int32) (X : (Int32 × xS) ⊕ (Int32 × xS)) (H : Heap) (locs : List Loc) (ls : Array Slot), xf_X_sitters_L64 N c2 c3 c4 n S7 v5 v6 = some X → xI g A H0 s S7 H locs → lv_has ls 7 [(0, .ref (xr g 0)), (1, .int c2), (3, .int c3), (4, .int c4), (5, .int v5), (6, .int v6)] → (∀ (x23 : Int32) (S22 : xS), X = .inr (x23, S22) → ∀ (H : Heap) (locs : List Loc) (ls : Array Slot), xI g A H0 s S22 H locs → lv_has ls 7 [(5, .int x23)] → W p l e R s m args below meth c H locs 0 0 Q (F0 m 113 ls [])) → (∀ (r : Int32) (S9 : xS), X = .inl (r, S9) → xQi p l e R s m args below meth c cX11_sitters Q g A H0 r S9) → W p l e R s m args below meth c H locs 0 0 Q (F0 m 64 ls []) := by
  have hx := hc.1
  have hb := hc.2.1
  intro n
  induction n with
  | zero => intro _ _ _ X H locs ls hf; exact nomatch (show none = some X from hf)
  | succ n ih =>
    intro S7 v5 v6 X H locs ls hf hw hl kx kr
    rw [xf_X_sitters_L64] at hf
    refine lv_iload hx hb dX11_sitters_64 (lv_at hl 5 rfl) ?_
    refine lv_iload hx hb dX11_sitters_66 (lv_at hl 3 rfl) ?_
    refine lv_icmp_ge (tgt := 113) hx hb dX11_sitters_68 (by decide) (fun cn19 => ?_) (fun cn19 => ?_)
    · have hf := (if_pos cn19).symm.trans hf
      obtain rfl := Option.some.inj hf
      exact kx _ _ rfl _ _ _ hw (lv_sub hl [4] rfl)
    · have hf := (if_neg cn19).symm.trans hf
      refine lv_iload hx hb dX11_sitters_71 (lv_at hl 5 rfl) ?_
      refine lv_aload_n hx hb dX11_sitters_73 rfl (lv_at hl 0 rfl) ?_
      refine x_g_this_sheetSizes hc hw fl_11_59 dX11_sitters_74 ?_
      refine lv_iload_n hx hb dX11_sitters_77 rfl (lv_at hl 1 rfl) ?_
      obtain ⟨hi8, hf⟩ := gd_some hf
      refine x_l_this_sheetSizes hc hw (ok_in hi8) dX11_sitters_78 ?_
      refine lv_icmp_lt (tgt := 85) hx hb dX11_sitters_79 (by decide) (fun cn20 => ?_) (fun cn20 => ?_)
      · have hf := (if_pos cn20).symm.trans hf
        refine lv_aload_n hx hb dX11_sitters_85 rfl (lv_at hl 0 rfl) ?_
        refine lv_iload_n hx hb dX11_sitters_86 rfl (lv_at hl 2 rfl) ?_
        refine lv_iload hx hb dX11_sitters_87 (lv_at hl 5 rfl) ?_
        refine lv_aload_n hx hb dX11_sitters_89 rfl (lv_at hl 0 rfl) ?_
        refine x_g_this_cells hc hw fl_11_52 dX11_sitters_90 ?_
        refine lv_iload_n hx hb dX11_sitters_93 rfl (lv_at hl 1 rfl) ?_
        refine x_l_cells hc hw (ok_in hi8) (ok_nat hi8) dX11_sitters_94 ?_
        refine lv_iload hx hb dX11_sitters_95 (lv_at hl 5 rfl) ?_
        obtain ⟨hi9, hf⟩ := gd_some hf
        refine x_l_sheet hc hw (ok_nat hi8) (ok_in hi9) dX11_sitters_97 ?_
        obtain ⟨v10, S11, hcall, hf⟩ := bd2_some hf
        refine x_cvi (As := [.int c3, .int v6, .int (S7.1 (70 + c2.toNatClampNeg) v6.toNatClampNeg)]) (rest := []) hc hw hR (hml.trans hl.1.symm) (cx_X_sit l N S7 c3 v6 (S7.1 (70 + c2.toNatClampNeg) v6.toNatClampNeg) v10 S11 hcall) xq_11_X_sit (x_recv_this hw) (by decide) rfl rfl rfl (Nat.le_of_ble_eq_true rfl) dX11_sitters_98 (fun H locs hw => ?_) ⟨Nat.zero_le _, Nat.zero_le _⟩
        refine lv_if_lt (tgt := 107) hx hb dX11_sitters_101 (by decide) (fun cn21 => ?_) (fun cn21 => ?_)
        · have hf := (if_pos cn21).symm.trans hf
          refine lv_iinc (lv' := [(6, .int (v6 + 1)), (0, .ref (xr g 0)), (1, .int c2), (3, .int c3), (4, .int c4), (5, .int v5)]) hx hb dX11_sitters_107 hl (k := 5) rfl rfl (by decide) rfl (fun ls hl => ?_)
          refine lv_goto (tgt := 64) hx hb dX11_sitters_110 (by decide) ?_
          exact ih _ _ _ X _ _ _ hf hw (lv_sub hl [1, 2, 3, 4, 5, 0] rfl) kx kr
        · have hf := (if_neg cn21).symm.trans hf
          refine lv_iinc (lv' := [(5, .int (v5 + 1)), (0, .ref (xr g 0)), (1, .int c2), (3, .int c3), (4, .int c4), (6, .int v6)]) hx hb dX11_sitters_104 hl (k := 4) rfl rfl (by decide) rfl (fun ls hl => ?_)
          refine lv_iinc (lv' := [(6, .int (v6 + 1)), (5, .int (v5 + 1)), (0, .ref (xr g 0)), (1, .int c2), (3, .int c3), (4, .int c4)]) hx hb dX11_sitters_107 hl (k := 5) rfl rfl (by decide) rfl (fun ls hl => ?_)
          refine lv_goto (tgt := 64) hx hb dX11_sitters_110 (by decide) ?_
          exact ih _ _ _ X _ _ _ hf hw (lv_sub hl [2, 3, 4, 5, 1, 0] rfl) kx kr
      · have hf := (if_neg cn20).symm.trans hf
        refine lv_bipush (v := (-12)) hx hb dX11_sitters_82 (by decide) ?_
        obtain rfl := Option.some.inj hf
        exact kr _ _  rfl _ _ _ _ dX11_sitters_84 hw
def xf_X_sitters (N : Nat) (S : xS) (a1 : Int32) (a2 : Int32) (a3 : Int32) (a4 : Int32) : Option (Int32 × xS) := (if (xf_X_isIn a1 0 3) = true then (if (xf_X_isIn a2 0 2) = true then (if (xf_X_isIn a4 0 8) = true then (if ok a1 4 then (if (S.1 4 a1.toNatClampNeg) = (-1) then some ((-11), S) else (if (S.1 4 a1.toNatClampNeg) = a2 then (br2 (xf_X_sitters_L64 N a1 a3 a4 N S 0 0) (Option.some) fun v12 S13 => some (v12, S13)) else some ((-13), S))) else none) else some ((-2), S)) else some ((-2), S)) else some ((-2), S))
set_option maxRecDepth 100000 in
theorem cx_X_sitters (l : Launch) (N : Nat) (S : xS) (a1 : Int32) (a2 : Int32) (a3 : Int32) (a4 : Int32) (res : Int32) (S1 : xS) (hf : xf_X_sitters N S a1 a2 a3 a4 = some (res, S1)) : xMi l yX11_sitters cX11_sitters 7 .int 5 (fun g => [.ref (xr g 0), .int a1, .int a2, .int a3, .int a4]) S res S1 := by
  refine xMi_of (own := RX11) (by decide) rfl rfl (fun g => Nat.le_of_ble_eq_true rfl) ?_
  intro p e R s m args below meth c Q g A H0 H locs ls hc hR hml hw hl hQ
  have hl : lv_has ls 7 [(0, .ref (xr g 0)), (1, .int a1), (2, .int a2), (3, .int a3), (4, .int a4)] := hl
  have hx := hc.1
  have hb := hc.2.1
  unfold xf_X_sitters at hf
  refine lv_iload_n hx hb dX11_sitters_0 rfl (lv_at hl 1 rfl) ?_
  refine lv_iconst (v := 0) hx hb dX11_sitters_1 (by decide) ?_
  refine lv_iconst (v := 3) hx hb dX11_sitters_2 (by decide) ?_
  refine x_csi (As := [.int a1, .int 0, .int 3]) (rest := []) hc hw hR (hml.trans hl.1.symm) (cx_X_isIn l S a1 0 3 _ rfl) xq_11_X_isIn (by decide) rfl rfl rfl (Nat.le_of_ble_eq_true rfl) dX11_sitters_3 (fun H locs hw => ?_) ⟨Nat.zero_le _, Nat.zero_le _⟩
  refine lv_if_eqb (tgt := 29) hx hb dX11_sitters_6 (by decide) (fun cn14 => ?_) (fun cn14 => ?_)
  · have hf := (if_neg cn14).symm.trans hf
    refine lv_bipush (v := (-2)) hx hb dX11_sitters_29 (by decide) ?_
    obtain ⟨rfl, rfl⟩ := pr2_some hf
    exact hQ _ _ _ _ dX11_sitters_31 hw
  · have hf := (if_pos cn14).symm.trans hf
    refine lv_iload_n hx hb dX11_sitters_9 rfl (lv_at hl 2 rfl) ?_
    refine lv_iconst (v := 0) hx hb dX11_sitters_10 (by decide) ?_
    refine lv_iconst (v := 2) hx hb dX11_sitters_11 (by decide) ?_
    refine x_csi (As := [.int a2, .int 0, .int 2]) (rest := []) hc hw hR (hml.trans hl.1.symm) (cx_X_isIn l S a2 0 2 _ rfl) xq_11_X_isIn (by decide) rfl rfl rfl (Nat.le_of_ble_eq_true rfl) dX11_sitters_12 (fun H locs hw => ?_) ⟨Nat.zero_le _, Nat.zero_le _⟩
    refine lv_if_eqb (tgt := 29) hx hb dX11_sitters_15 (by decide) (fun cn15 => ?_) (fun cn15 => ?_)
    · have hf := (if_neg cn15).symm.trans hf
      refine lv_bipush (v := (-2)) hx hb dX11_sitters_29 (by decide) ?_
      obtain ⟨rfl, rfl⟩ := pr2_some hf
      exact hQ _ _ _ _ dX11_sitters_31 hw
    · have hf := (if_pos cn15).symm.trans hf
      refine lv_iload hx hb dX11_sitters_18 (lv_at hl 4 rfl) ?_
      refine lv_iconst (v := 0) hx hb dX11_sitters_20 (by decide) ?_
      refine lv_bipush (v := 8) hx hb dX11_sitters_21 (by decide) ?_
      refine x_csi (As := [.int a4, .int 0, .int 8]) (rest := []) hc hw hR (hml.trans hl.1.symm) (cx_X_isIn l S a4 0 8 _ rfl) xq_11_X_isIn (by decide) rfl rfl rfl (Nat.le_of_ble_eq_true rfl) dX11_sitters_23 (fun H locs hw => ?_) ⟨Nat.zero_le _, Nat.zero_le _⟩
      refine lv_if_neb (tgt := 32) hx hb dX11_sitters_26 (by decide) (fun cn16 => ?_) (fun cn16 => ?_)
      · have hf := (if_pos cn16).symm.trans hf
        refine lv_aload_n hx hb dX11_sitters_32 rfl (lv_at hl 0 rfl) ?_
        refine x_g_this_sheetSorts hc hw fl_11_55 dX11_sitters_33 ?_
        refine lv_iload_n hx hb dX11_sitters_36 rfl (lv_at hl 1 rfl) ?_
        obtain ⟨hi1, hf⟩ := gd_some hf
        refine x_l_this_sheetSorts hc hw (ok_in hi1) dX11_sitters_37 ?_
        refine lv_iconst (v := (-1)) hx hb dX11_sitters_38 (by decide) ?_
        refine lv_icmp_ne (tgt := 45) hx hb dX11_sitters_39 (by decide) (fun cn17 => ?_) (fun cn17 => ?_)
        · have hf := (if_neg cn17).symm.trans hf
          refine lv_aload_n hx hb dX11_sitters_45 rfl (lv_at hl 0 rfl) ?_
          refine x_g_this_sheetSorts hc hw fl_11_55 dX11_sitters_46 ?_
          refine lv_iload_n hx hb dX11_sitters_49 rfl (lv_at hl 1 rfl) ?_
          refine x_l_this_sheetSorts hc hw (ok_in hi1) dX11_sitters_50 ?_
          refine lv_iload_n hx hb dX11_sitters_51 rfl (lv_at hl 2 rfl) ?_
          refine lv_icmp_eq (tgt := 58) hx hb dX11_sitters_52 (by decide) (fun cn18 => ?_) (fun cn18 => ?_)
          · have hf := (if_pos cn18).symm.trans hf
            refine lv_iconst (v := 0) hx hb dX11_sitters_58 (by decide) ?_
            refine lv_istore (lv' := [(5, .int 0), (0, .ref (xr g 0)), (1, .int a1), (2, .int a2), (3, .int a3), (4, .int a4)]) hx hb dX11_sitters_59 hl (by decide) rfl (fun ls hl => ?_)
            refine lv_iconst (v := 0) hx hb dX11_sitters_61 (by decide) ?_
            refine lv_istore (lv' := [(6, .int 0), (5, .int 0), (0, .ref (xr g 0)), (1, .int a1), (2, .int a2), (3, .int a3), (4, .int a4)]) hx hb dX11_sitters_62 hl (by decide) rfl (fun ls hl => ?_)
            rcases br2_some hf with ⟨q, hL, hf⟩ | ⟨v12, S13, hL, hf⟩
            · refine wx_X_sitters_L64 hc hR hml N a1 a3 a4 N _ _ _ _ _ _ _ hL hw (lv_sub hl [2, 3, 5, 6, 1, 0] rfl) (fun _ _  h => nomatch h) ?_
              obtain rfl := Option.some.inj hf
              intro z0 z1 h; cases h; exact hQ
            · refine wx_X_sitters_L64 hc hR hml N a1 a3 a4 N _ _ _ _ _ _ _ hL hw (lv_sub hl [2, 3, 5, 6, 1, 0] rfl) (fun y0 y1 hi => ?_) (fun _ _  h => nomatch h)
              cases hi
              intro H locs ls hw hl
              refine lv_iload hx hb dX11_sitters_113 (lv_at hl 0 rfl) ?_
              obtain ⟨rfl, rfl⟩ := pr2_some hf
              exact hQ _ _ _ _ dX11_sitters_115 hw
          · have hf := (if_neg cn18).symm.trans hf
            refine lv_bipush (v := (-13)) hx hb dX11_sitters_55 (by decide) ?_
            obtain ⟨rfl, rfl⟩ := pr2_some hf
            exact hQ _ _ _ _ dX11_sitters_57 hw
        · have hf := (if_pos cn17).symm.trans hf
          refine lv_bipush (v := (-11)) hx hb dX11_sitters_42 (by decide) ?_
          obtain ⟨rfl, rfl⟩ := pr2_some hf
          exact hQ _ _ _ _ dX11_sitters_44 hw
      · have hf := (if_neg cn16).symm.trans hf
        refine lv_bipush (v := (-2)) hx hb dX11_sitters_29 (by decide) ?_
        obtain ⟨rfl, rfl⟩ := pr2_some hf
        exact hQ _ _ _ _ dX11_sitters_31 hw
def xf_H_hiderOf_L10 (N : Nat) (c2 : Int32) : Nat → xS → Int32 → Option ((Int32 × xS) ⊕ (Unit))
  | 0, _, _ => none
  | n + 1, S4, v3 => (if c2.toNatClampNeg < S4.2.2.1 then (if (S4.1 63 c2.toNatClampNeg) = 0 then some (.inr ()) else (if (S4.1 55 c2.toNatClampNeg) ≤ v3 then some (.inr ()) else (if ok v3 6 then (if v3.toNatClampNeg < S4.2.2.1 then (bd1 (xf_H_hidingSeat N S4 v3) fun v8 => (if v8 = (-1) then xf_H_hiderOf_L10 N c2 n S4 (v3 + 1) else some (.inl ((10 * v3) + v8, S4)))) else none) else none))) else none)
set_option maxRecDepth 100000 in
theorem wx_H_hiderOf_L10 {p : Program} {l : Launch} {e : Env} {R : Room} {s : State} {m : MethodId} {args : Array Value} {below : List Frame} {meth : Method} {c : Code} {Q : State → Prop} {g : xG} {A : Nat → Prop} {H0 : Heap} (hc : qC RX1 cX1_hiderOf p s m args c) (hR : qRoom R 5) (hml : c.maxLocals = 6) (N : Nat) (c2 : Int32) : ∀ (n : Nat) (S4 : xS) (v3 : Int32) (X : (Int32 × xS) ⊕ (Unit)) (H : Heap) (locs : List Loc) (ls : Array Slot), xf_H_hiderOf_L10 N c2 n S4 v3 = some X → xI g A H0 s S4 H locs → lv_has ls 6 [(0, .ref (xr g 1)), (1, .ref (xr g (100 + 2 * c2.toNatClampNeg))), (4, .int v3)] → (∀ (_ : Unit), X = .inr () → ∀ (H : Heap) (locs : List Loc) (ls : Array Slot), xI g A H0 s S4 H locs → lv_has ls 6 [(0, .ref (xr g 1))] → W p l e R s m args below meth c H locs 0 0 Q (F0 m 60 ls [])) → (∀ (r : Int32) (S9 : xS), X = .inl (r, S9) → xQi p l e R s m args below meth c cX1_hiderOf Q g A H0 r S9) → W p l e R s m args below meth c H locs 0 0 Q (F0 m 10 ls []) := by
  have hx := hc.1
  have hb := hc.2.1
  intro n
  induction n with
  | zero => intro _ _ X H locs ls hf; exact nomatch (show none = some X from hf)
  | succ n ih =>
    intro S4 v3 X H locs ls hf hw hl kx kr
    rw [xf_H_hiderOf_L10] at hf
    refine lv_aload_n hx hb dX1_hiderOf_10 rfl (lv_at hl 1 rfl) ?_
    obtain ⟨hr5, hf⟩ := gd_some hf
    refine x_rg_among hc hw hr5 fl_1_123 dX1_hiderOf_11 ?_
    refine lv_if_eq (tgt := 60) hx hb dX1_hiderOf_14 (by decide) (fun cn10 => ?_) (fun cn10 => ?_)
    · have hf := (if_pos cn10).symm.trans hf
      obtain rfl := Option.some.inj hf
      exact kx () rfl _ _ _ hw (lv_sub hl [0] rfl)
    · have hf := (if_neg cn10).symm.trans hf
      refine lv_iload hx hb dX1_hiderOf_17 (lv_at hl 2 rfl) ?_
      refine lv_aload_n hx hb dX1_hiderOf_19 rfl (lv_at hl 1 rfl) ?_
      refine x_rg_number hc hw hr5 fl_1_127 dX1_hiderOf_20 ?_
      refine lv_icmp_ge (tgt := 60) hx hb dX1_hiderOf_23 (by decide) (fun cn11 => ?_) (fun cn11 => ?_)
      · have hf := (if_pos cn11).symm.trans hf
        obtain rfl := Option.some.inj hf
        exact kx () rfl _ _ _ hw (lv_sub hl [0] rfl)
      · have hf := (if_neg cn11).symm.trans hf
        refine lv_aload_n hx hb dX1_hiderOf_26 rfl (lv_at hl 0 rfl) ?_
        refine lv_aload_n hx hb dX1_hiderOf_27 rfl (lv_at hl 0 rfl) ?_
        refine x_g_hall_rows hc hw fl_1_23 dX1_hiderOf_28 ?_
        refine lv_iload hx hb dX1_hiderOf_31 (lv_at hl 2 rfl) ?_
        obtain ⟨hi6, hf⟩ := gd_some hf
        obtain ⟨hr7, hf⟩ := gd_some hf
        refine x_l_rows hc hw (ok_in hi6) hr7 dX1_hiderOf_33 ?_
        obtain ⟨v8, hcall, hf⟩ := bd1_some hf
        refine x_cvi (As := [.ref (xr g (100 + 2 * v3.toNatClampNeg))]) (rest := []) hc hw hR (hml.trans hl.1.symm) (cx_H_hidingSeat l N S4 v3 v8 hcall) xq_1_H_hidingSeat (x_recv_hall hw) (by decide) rfl rfl rfl (Nat.le_of_ble_eq_true rfl) dX1_hiderOf_34 (fun H locs hw => ?_) ⟨Nat.zero_le _, Nat.zero_le _⟩
        refine lv_istore (lv' := [(5, .int v8), (0, .ref (xr g 1)), (1, .ref (xr g (100 + 2 * c2.toNatClampNeg))), (4, .int v3)]) hx hb dX1_hiderOf_37 hl (by decide) rfl (fun ls hl => ?_)
        refine lv_iload hx hb dX1_hiderOf_39 (lv_at hl 0 rfl) ?_
        refine lv_iconst (v := (-1)) hx hb dX1_hiderOf_41 (by decide) ?_
        refine lv_icmp_eq (tgt := 54) hx hb dX1_hiderOf_42 (by decide) (fun cn12 => ?_) (fun cn12 => ?_)
        · have hf := (if_pos cn12).symm.trans hf
          refine lv_iinc (lv' := [(4, .int (v3 + 1)), (5, .int v8), (0, .ref (xr g 1)), (1, .ref (xr g (100 + 2 * c2.toNatClampNeg)))]) hx hb dX1_hiderOf_54 hl (k := 3) rfl rfl (by decide) rfl (fun ls hl => ?_)
          refine lv_goto (tgt := 10) hx hb dX1_hiderOf_57 (by decide) ?_
          exact ih _ _ X _ _ _ hf hw (lv_sub hl [2, 3, 0] rfl) kx kr
        · have hf := (if_neg cn12).symm.trans hf
          refine lv_bipush (v := 10) hx hb dX1_hiderOf_45 (by decide) ?_
          refine lv_iload hx hb dX1_hiderOf_47 (lv_at hl 3 rfl) ?_
          refine lv_imul hx hb dX1_hiderOf_49 ?_
          refine lv_iload hx hb dX1_hiderOf_50 (lv_at hl 0 rfl) ?_
          refine lv_iadd hx hb dX1_hiderOf_52 ?_
          obtain rfl := Option.some.inj hf
          exact kr _ _  rfl _ _ _ _ dX1_hiderOf_53 hw
def xf_H_hiderOf (N : Nat) (S : xS) (a1 : Int32) (a2 : Int32) (a3 : Int32) : Option (Int32 × xS) := (bd1 (xf_H_layLine N S a1 a2 a3) fun S1 => (br0 (xf_H_hiderOf_L10 N a1 N S1 0) (Option.some) fun _ => (bd1 (xf_H_hidingPost N S1) fun v9 => (if v9 = (-1) then some ((-1), S1) else some (100 + v9, S1)))))
set_option maxRecDepth 100000 in
theorem cx_H_hiderOf (l : Launch) (N : Nat) (S : xS) (a1 : Int32) (a2 : Int32) (a3 : Int32) (res : Int32) (S1 : xS) (hf : xf_H_hiderOf N S a1 a2 a3 = some (res, S1)) : xMi l yX1_hiderOf cX1_hiderOf 6 .int 5 (fun g => [.ref (xr g 1), .ref (xr g (100 + 2 * a1.toNatClampNeg)), .int a2, .int a3]) S res S1 := by
  refine xMi_of (own := RX1) (by decide) rfl rfl (fun g => Nat.le_of_ble_eq_true rfl) ?_
  intro p e R s m args below meth c Q g A H0 H locs ls hc hR hml hw hl hQ
  have hl : lv_has ls 6 [(0, .ref (xr g 1)), (1, .ref (xr g (100 + 2 * a1.toNatClampNeg))), (2, .int a2), (3, .int a3)] := hl
  have hx := hc.1
  have hb := hc.2.1
  unfold xf_H_hiderOf at hf
  refine lv_aload_n hx hb dX1_hiderOf_0 rfl (lv_at hl 0 rfl) ?_
  refine lv_aload_n hx hb dX1_hiderOf_1 rfl (lv_at hl 1 rfl) ?_
  refine lv_iload_n hx hb dX1_hiderOf_2 rfl (lv_at hl 2 rfl) ?_
  refine lv_iload_n hx hb dX1_hiderOf_3 rfl (lv_at hl 3 rfl) ?_
  obtain ⟨S1, hcall, hf⟩ := bd1_some hf
  refine x_cvv (As := [.ref (xr g (100 + 2 * a1.toNatClampNeg)), .int a2, .int a3]) (rest := []) hc hw hR (hml.trans hl.1.symm) (cx_H_layLine l N S a1 a2 a3 S1 hcall) xq_1_H_layLine (x_recv_hall hw) (by decide) rfl rfl rfl (Nat.le_of_ble_eq_true rfl) dX1_hiderOf_4 (fun H locs hw => ?_) ⟨Nat.zero_le _, Nat.zero_le _⟩
  refine lv_iconst (v := 0) hx hb dX1_hiderOf_7 (by decide) ?_
  refine lv_istore (lv' := [(4, .int 0), (0, .ref (xr g 1)), (1, .ref (xr g (100 + 2 * a1.toNatClampNeg))), (2, .int a2), (3, .int a3)]) hx hb dX1_hiderOf_8 hl (by decide) rfl (fun ls hl => ?_)
  rcases br0_some hf with ⟨q, hL, hf⟩ | ⟨hL, hf⟩
  · refine wx_H_hiderOf_L10 hc hR hml N a1 N _ _ _ _ _ _ hL hw (lv_sub hl [1, 2, 0] rfl) (fun _  h => nomatch h) ?_
    obtain rfl := Option.some.inj hf
    intro z0 z1 h; cases h; exact hQ
  · refine wx_H_hiderOf_L10 hc hR hml N a1 N _ _ _ _ _ _ hL hw (lv_sub hl [1, 2, 0] rfl) (fun y0 hi => ?_) (fun _ _  h => nomatch h)
    cases hi
    intro H locs ls hw hl
    refine lv_aload_n hx hb dX1_hiderOf_60 rfl (lv_at hl 0 rfl) ?_
    obtain ⟨v9, hcall, hf⟩ := bd1_some hf
    refine x_cvi (As := []) (rest := []) hc hw hR (hml.trans hl.1.symm) (cx_H_hidingPost l N S1 v9 hcall) xq_1_H_hidingPost (x_recv_hall hw) (by decide) rfl rfl rfl (Nat.le_of_ble_eq_true rfl) dX1_hiderOf_61 (fun H locs hw => ?_) ⟨Nat.zero_le _, Nat.zero_le _⟩
    refine lv_istore (lv' := [(4, .int v9), (0, .ref (xr g 1))]) hx hb dX1_hiderOf_64 hl (by decide) rfl (fun ls hl => ?_)
    refine lv_iload hx hb dX1_hiderOf_66 (lv_at hl 0 rfl) ?_
    refine lv_iconst (v := (-1)) hx hb dX1_hiderOf_68 (by decide) ?_
    refine lv_icmp_ne (tgt := 76) hx hb dX1_hiderOf_69 (by decide) (fun cn13 => ?_) (fun cn13 => ?_)
    · have hf := (if_neg cn13).symm.trans hf
      refine lv_bipush (v := 100) hx hb dX1_hiderOf_76 (by decide) ?_
      refine lv_iload hx hb dX1_hiderOf_78 (lv_at hl 0 rfl) ?_
      refine lv_iadd hx hb dX1_hiderOf_80 ?_
      obtain ⟨rfl, rfl⟩ := pr2_some hf
      exact hQ _ _ _ _ dX1_hiderOf_81 hw
    · have hf := (if_pos cn13).symm.trans hf
      refine lv_iconst (v := (-1)) hx hb dX1_hiderOf_72 (by decide) ?_
      refine lv_goto (tgt := 81) hx hb dX1_hiderOf_73 (by decide) ?_
      obtain ⟨rfl, rfl⟩ := pr2_some hf
      exact hQ _ _ _ _ dX1_hiderOf_81 hw
def xf_H_chanceOf_L62 (N : Nat) (c14 : Int32) (c17 : Int32) (c18 : Int32) (c19 : Int32) : Nat → xS → Int64 → Int64 → Int32 → Option (Int64 × Int64)
  | 0, _, _, _, _ => none
  | n + 1, S21, v15, v16, v20 => (if c19.toNatClampNeg < S21.2.2.1 then (if (S21.1 63 c19.toNatClampNeg) = 0 then some (v15, v16) else (if (S21.1 56 c19.toNatClampNeg) ≤ v20 then some (v15, v16) else (bd1 (xf_W_placeOf N S21 c19 v20) fun v23 => (if (S21.1 49 0) < (if 0 ≤ (xf_L_besides S21 (S21.1 61 c19.toNatClampNeg) v23) then (xf_L_besides S21 (S21.1 61 c19.toNatClampNeg) v23) else 0 - (xf_L_besides S21 (S21.1 61 c19.toNatClampNeg) v23)) then xf_H_chanceOf_L62 N c14 c17 c18 c19 n S21 v15 v16 (v20 + 1) else (bd1 (xf_H_countsOfThoseBelow N S21 c19) fun v24 => xf_H_chanceOf_L62 N c14 c17 c18 c19 n S21 (v15 * v24.toInt64) (v16 * c17.toInt64) (v20 + 1)))))) else none)
set_option maxRecDepth 100000 in
theorem wx_H_chanceOf_L62 {p : Program} {l : Launch} {e : Env} {R : Room} {s : State} {m : MethodId} {args : Array Value} {below : List Frame} {meth : Method} {c : Code} {Q : State → Prop} {g : xG} {A : Nat → Prop} {H0 : Heap} (hc : qC RX1 cX1_chanceOf p s m args c) (hR : qRoom R 5) (hml : c.maxLocals = 13) (N : Nat) (c14 : Int32) (c17 : Int32) (c18 : Int32) (c19 : Int32) : ∀ (n : Nat) (S21 : xS) (v15 : Int64) (v16 : Int64) (v20 : Int32) (X : Int64 × Int64) (H : Heap) (locs : List Loc) (ls : Array Slot), xf_H_chanceOf_L62 N c14 c17 c18 c19 n S21 v15 v16 v20 = some X → xI g A H0 s S21 H locs → lv_has ls 13 [(0, .ref (xr g 1)), (1, .ref (xr g (100 + 2 * c14.toNatClampNeg))), (4, .ref (xr g 5)), (5, .long v15), (7, .long v16), (9, .int c17), (10, .int c18), (11, .ref (xr g (100 + 2 * c19.toNatClampNeg))), (12, .int v20)] → (∀ (H : Heap) (locs : List Loc) (ls : Array Slot), xI g A H0 s S21 H locs → lv_has ls 13 [(0, .ref (xr g 1)), (1, .ref (xr g (100 + 2 * c14.toNatClampNeg))), (4, .ref (xr g 5)), (5, .long X.1), (7, .long X.2), (9, .int c17), (10, .int c18)] → W p l e R s m args below meth c H locs 0 0 Q (F0 m 138 ls [])) → W p l e R s m args below meth c H locs 0 0 Q (F0 m 62 ls []) := by
  have hx := hc.1
  have hb := hc.2.1
  intro n
  induction n with
  | zero => intro _ _ _ _ X H locs ls hf; exact nomatch (show none = some X from hf)
  | succ n ih =>
    intro S21 v15 v16 v20 X H locs ls hf hw hl kx
    rw [xf_H_chanceOf_L62] at hf
    refine lv_aload hx hb dX1_chanceOf_62 (lv_at hl 7 rfl) ?_
    obtain ⟨hr22, hf⟩ := gd_some hf
    refine x_rg_among hc hw hr22 fl_1_123 dX1_chanceOf_64 ?_
    refine lv_if_eq (tgt := 138) hx hb dX1_chanceOf_67 (by decide) (fun cn32 => ?_) (fun cn32 => ?_)
    · have hf := (if_pos cn32).symm.trans hf
      obtain rfl := Option.some.inj hf
      exact kx _ _ _ hw (lv_sub hl [0, 1, 2, 3, 4, 5, 6] rfl)
    · have hf := (if_neg cn32).symm.trans hf
      refine lv_iload hx hb dX1_chanceOf_70 (lv_at hl 8 rfl) ?_
      refine lv_aload hx hb dX1_chanceOf_72 (lv_at hl 7 rfl) ?_
      refine x_rg_seats hc hw hr22 fl_1_86 dX1_chanceOf_74 ?_
      refine lv_icmp_ge (tgt := 138) hx hb dX1_chanceOf_77 (by decide) (fun cn33 => ?_) (fun cn33 => ?_)
      · have hf := (if_pos cn33).symm.trans hf
        obtain rfl := Option.some.inj hf
        exact kx _ _ _ hw (lv_sub hl [0, 1, 2, 3, 4, 5, 6] rfl)
      · have hf := (if_neg cn33).symm.trans hf
        refine lv_aload_n hx hb dX1_chanceOf_80 rfl (lv_at hl 0 rfl) ?_
        refine x_g_hall_line hc hw fl_1_75 dX1_chanceOf_81 ?_
        refine lv_aload hx hb dX1_chanceOf_84 (lv_at hl 7 rfl) ?_
        refine x_rg_far hc hw hr22 fl_1_106 dX1_chanceOf_86 ?_
        refine lv_aload hx hb dX1_chanceOf_89 (lv_at hl 7 rfl) ?_
        refine lv_iload hx hb dX1_chanceOf_91 (lv_at hl 8 rfl) ?_
        obtain ⟨v23, hcall, hf⟩ := bd1_some hf
        refine x_cri (As := [.int v20]) (rest := [.int (S21.1 61 c19.toNatClampNeg), .ref (xr g 4)]) hc hw hR (hml.trans hl.1.symm) (cx_W_placeOf l N S21 c19 v20 v23 hcall) xq_1_W_placeOf hr22 (by decide) rfl rfl rfl (Nat.le_of_ble_eq_true rfl) dX1_chanceOf_93 (fun H locs hw => ?_) ⟨Nat.zero_le _, Nat.zero_le _⟩
        refine x_cvi (As := [.int (S21.1 61 c19.toNatClampNeg), .int v23]) (rest := []) hc hw hR (hml.trans hl.1.symm) (cx_L_besides l S21 (S21.1 61 c19.toNatClampNeg) v23 _ rfl) xq_1_L_besides (x_recv_line hw) (by decide) rfl rfl rfl (Nat.le_of_ble_eq_true rfl) dX1_chanceOf_96 (fun H locs hw => ?_) ⟨Nat.zero_le _, Nat.zero_le _⟩
        refine x_mabs hc hR (by decide) (hml.trans hl.1.symm) xq_1_x_mabs (Nat.le_of_ble_eq_true rfl) dX1_chanceOf_99 ?_ ⟨Nat.zero_le _, Nat.zero_le _⟩
        refine lv_aload_n hx hb dX1_chanceOf_102 rfl (lv_at hl 0 rfl) ?_
        refine x_g_hall_line hc hw fl_1_75 dX1_chanceOf_103 ?_
        refine x_g_line_far hc hw fl_1_138 dX1_chanceOf_106 ?_
        refine lv_icmp_gt (tgt := 132) hx hb dX1_chanceOf_109 (by decide) (fun cn34 => ?_) (fun cn34 => ?_)
        · have hf := (if_pos cn34).symm.trans hf
          refine lv_iinc (lv' := [(12, .int (v20 + 1)), (0, .ref (xr g 1)), (1, .ref (xr g (100 + 2 * c14.toNatClampNeg))), (4, .ref (xr g 5)), (5, .long v15), (7, .long v16), (9, .int c17), (10, .int c18), (11, .ref (xr g (100 + 2 * c19.toNatClampNeg)))]) hx hb dX1_chanceOf_132 hl (k := 8) rfl rfl (by decide) rfl (fun ls hl => ?_)
          refine lv_goto (tgt := 62) hx hb dX1_chanceOf_135 (by decide) ?_
          exact ih _ _ _ _ X _ _ _ hf hw (lv_sub hl [1, 2, 3, 4, 5, 6, 7, 8, 0] rfl) kx
        · have hf := (if_neg cn34).symm.trans hf
          refine lv_lload hx hb dX1_chanceOf_112 (lv_at hl 3 rfl) ?_
          refine lv_aload_n hx hb dX1_chanceOf_114 rfl (lv_at hl 0 rfl) ?_
          refine lv_aload hx hb dX1_chanceOf_115 (lv_at hl 7 rfl) ?_
          obtain ⟨v24, hcall, hf⟩ := bd1_some hf
          refine x_cvi (As := [.ref (xr g (100 + 2 * c19.toNatClampNeg))]) (rest := [.long v15]) hc hw hR (hml.trans hl.1.symm) (cx_H_countsOfThoseBelow l N S21 c19 v24 hcall) xq_1_H_countsOfThoseBelow (x_recv_hall hw) (by decide) rfl rfl rfl (Nat.le_of_ble_eq_true rfl) dX1_chanceOf_117 (fun H locs hw => ?_) ⟨Nat.zero_le _, Nat.zero_le _⟩
          refine lv_i2l hx hb dX1_chanceOf_120 rfl ?_
          refine lv_lmul hx hb dX1_chanceOf_121 ?_
          refine lv_lstore (lv' := [(5, .long (v15 * v24.toInt64)), (0, .ref (xr g 1)), (1, .ref (xr g (100 + 2 * c14.toNatClampNeg))), (4, .ref (xr g 5)), (7, .long v16), (9, .int c17), (10, .int c18), (11, .ref (xr g (100 + 2 * c19.toNatClampNeg))), (12, .int v20)]) hx hb dX1_chanceOf_122 hl (by decide) rfl (fun ls hl => ?_)
          refine lv_lload hx hb dX1_chanceOf_124 (lv_at hl 4 rfl) ?_
          refine lv_iload hx hb dX1_chanceOf_126 (lv_at hl 5 rfl) ?_
          refine lv_i2l hx hb dX1_chanceOf_128 rfl ?_
          refine lv_lmul hx hb dX1_chanceOf_129 ?_
          refine lv_lstore (lv' := [(7, .long (v16 * c17.toInt64)), (5, .long (v15 * v24.toInt64)), (0, .ref (xr g 1)), (1, .ref (xr g (100 + 2 * c14.toNatClampNeg))), (4, .ref (xr g 5)), (9, .int c17), (10, .int c18), (11, .ref (xr g (100 + 2 * c19.toNatClampNeg))), (12, .int v20)]) hx hb dX1_chanceOf_130 hl (by decide) rfl (fun ls hl => ?_)
          refine lv_iinc (lv' := [(12, .int (v20 + 1)), (7, .long (v16 * c17.toInt64)), (5, .long (v15 * v24.toInt64)), (0, .ref (xr g 1)), (1, .ref (xr g (100 + 2 * c14.toNatClampNeg))), (4, .ref (xr g 5)), (9, .int c17), (10, .int c18), (11, .ref (xr g (100 + 2 * c19.toNatClampNeg)))]) hx hb dX1_chanceOf_132 hl (k := 8) rfl rfl (by decide) rfl (fun ls hl => ?_)
          refine lv_goto (tgt := 62) hx hb dX1_chanceOf_135 (by decide) ?_
          exact ih _ _ _ _ X _ _ _ hf hw (lv_sub hl [3, 4, 5, 2, 1, 6, 7, 8, 0] rfl) kx
def xf_H_chanceOf_L34 (N : Nat) (c5 : Int32) (c8 : Int32) : Nat → xS → Int64 → Int64 → Int32 → Option (Int64 × Int64)
  | 0, _, _, _, _ => none
  | n + 1, S10, v6, v7, v9 => (if c5.toNatClampNeg < S10.2.2.1 then (if (S10.1 63 c5.toNatClampNeg) = 0 then some (v6, v7) else (if (S10.1 55 c5.toNatClampNeg) ≤ v9 then some (v6, v7) else (if ok v9 6 then (if v9.toNatClampNeg < S10.2.2.1 then (bd2 (xf_H_chanceOf_L62 N c5 c8 v9 v9 N S10 v6 v7 0) fun v25 v26 => xf_H_chanceOf_L34 N c5 c8 n S10 v25 v26 (v9 + 1)) else none) else none))) else none)
set_option maxRecDepth 100000 in
theorem wx_H_chanceOf_L34 {p : Program} {l : Launch} {e : Env} {R : Room} {s : State} {m : MethodId} {args : Array Value} {below : List Frame} {meth : Method} {c : Code} {Q : State → Prop} {g : xG} {A : Nat → Prop} {H0 : Heap} (hc : qC RX1 cX1_chanceOf p s m args c) (hR : qRoom R 5) (hml : c.maxLocals = 13) (N : Nat) (c5 : Int32) (c8 : Int32) : ∀ (n : Nat) (S10 : xS) (v6 : Int64) (v7 : Int64) (v9 : Int32) (X : Int64 × Int64) (H : Heap) (locs : List Loc) (ls : Array Slot), xf_H_chanceOf_L34 N c5 c8 n S10 v6 v7 v9 = some X → xI g A H0 s S10 H locs → lv_has ls 13 [(0, .ref (xr g 1)), (1, .ref (xr g (100 + 2 * c5.toNatClampNeg))), (4, .ref (xr g 5)), (5, .long v6), (7, .long v7), (9, .int c8), (10, .int v9)] → (∀ (H : Heap) (locs : List Loc) (ls : Array Slot), xI g A H0 s S10 H locs → lv_has ls 13 [(4, .ref (xr g 5)), (5, .long X.1), (7, .long X.2)] → W p l e R s m args below meth c H locs 0 0 Q (F0 m 144 ls [])) → W p l e R s m args below meth c H locs 0 0 Q (F0 m 34 ls []) := by
  have hx := hc.1
  have hb := hc.2.1
  intro n
  induction n with
  | zero => intro _ _ _ _ X H locs ls hf; exact nomatch (show none = some X from hf)
  | succ n ih =>
    intro S10 v6 v7 v9 X H locs ls hf hw hl kx
    rw [xf_H_chanceOf_L34] at hf
    refine lv_aload_n hx hb dX1_chanceOf_34 rfl (lv_at hl 1 rfl) ?_
    obtain ⟨hr11, hf⟩ := gd_some hf
    refine x_rg_among hc hw hr11 fl_1_123 dX1_chanceOf_35 ?_
    refine lv_if_eq (tgt := 144) hx hb dX1_chanceOf_38 (by decide) (fun cn30 => ?_) (fun cn30 => ?_)
    · have hf := (if_pos cn30).symm.trans hf
      obtain rfl := Option.some.inj hf
      exact kx _ _ _ hw (lv_sub hl [2, 3, 4] rfl)
    · have hf := (if_neg cn30).symm.trans hf
      refine lv_iload hx hb dX1_chanceOf_41 (lv_at hl 6 rfl) ?_
      refine lv_aload_n hx hb dX1_chanceOf_43 rfl (lv_at hl 1 rfl) ?_
      refine x_rg_number hc hw hr11 fl_1_127 dX1_chanceOf_44 ?_
      refine lv_icmp_ge (tgt := 144) hx hb dX1_chanceOf_47 (by decide) (fun cn31 => ?_) (fun cn31 => ?_)
      · have hf := (if_pos cn31).symm.trans hf
        obtain rfl := Option.some.inj hf
        exact kx _ _ _ hw (lv_sub hl [2, 3, 4] rfl)
      · have hf := (if_neg cn31).symm.trans hf
        refine lv_aload_n hx hb dX1_chanceOf_50 rfl (lv_at hl 0 rfl) ?_
        refine x_g_hall_rows hc hw fl_1_23 dX1_chanceOf_51 ?_
        refine lv_iload hx hb dX1_chanceOf_54 (lv_at hl 6 rfl) ?_
        obtain ⟨hi12, hf⟩ := gd_some hf
        obtain ⟨hr13, hf⟩ := gd_some hf
        refine x_l_rows hc hw (ok_in hi12) hr13 dX1_chanceOf_56 ?_
        refine lv_astore (lv' := [(11, .ref (xr g (100 + 2 * v9.toNatClampNeg))), (0, .ref (xr g 1)), (1, .ref (xr g (100 + 2 * c5.toNatClampNeg))), (4, .ref (xr g 5)), (5, .long v6), (7, .long v7), (9, .int c8), (10, .int v9)]) hx hb dX1_chanceOf_57 hl (by decide) rfl (fun ls hl => ?_)
        refine lv_iconst (v := 0) hx hb dX1_chanceOf_59 (by decide) ?_
        refine lv_istore (lv' := [(12, .int 0), (11, .ref (xr g (100 + 2 * v9.toNatClampNeg))), (0, .ref (xr g 1)), (1, .ref (xr g (100 + 2 * c5.toNatClampNeg))), (4, .ref (xr g 5)), (5, .long v6), (7, .long v7), (9, .int c8), (10, .int v9)]) hx hb dX1_chanceOf_60 hl (by decide) rfl (fun ls hl => ?_)
        obtain ⟨v25, v26, hL, hf⟩ := bd2_some hf
        refine wx_H_chanceOf_L62 hc hR hml N c5 c8 v9 v9 N _ _ _ _ _ _ _ _ hL hw (lv_sub hl [2, 3, 4, 5, 6, 7, 8, 1, 0] rfl) (fun H locs ls hw hl => ?_)
        refine lv_iinc (lv' := [(10, .int (v9 + 1)), (0, .ref (xr g 1)), (1, .ref (xr g (100 + 2 * c5.toNatClampNeg))), (4, .ref (xr g 5)), (5, .long v25), (7, .long v26), (9, .int c8)]) hx hb dX1_chanceOf_138 hl (k := 6) rfl rfl (by decide) rfl (fun ls hl => ?_)
        refine lv_goto (tgt := 34) hx hb dX1_chanceOf_141 (by decide) ?_
        exact ih _ _ _ _ X _ _ _ hf hw (lv_sub hl [1, 2, 3, 4, 5, 6, 0] rfl) kx
def xf_H_chanceOf (N : Nat) (S : xS) (a1 : Int32) (a2 : Int32) (a3 : Int32) : Option (xS) := (bd1 (xf_H_layLine N S a1 a2 a3) fun S1 => (bd1 (xf_H_hidingPost N S1) fun v2 => (bd1 (xf_H_allCounts N S1) fun v4 => (bd2 (xf_H_chanceOf_L34 N a1 v4 N S1 ((if v2 = (-1) then 1 else 0) : Int64) 1 0) fun v27 v28 => (bd1 (xf_X_reduce N S1 v27 v28) fun S29 => some S29)))))
set_option maxRecDepth 100000 in
theorem cx_H_chanceOf (l : Launch) (N : Nat) (S : xS) (a1 : Int32) (a2 : Int32) (a3 : Int32) (S1 : xS) (hf : xf_H_chanceOf N S a1 a2 a3 = some S1) : xMv l yX1_chanceOf cX1_chanceOf 13 5 (fun g => [.ref (xr g 1), .ref (xr g (100 + 2 * a1.toNatClampNeg)), .int a2, .int a3, .ref (xr g 5)]) S S1 := by
  refine xMv_of (own := RX1) (by decide) rfl (fun g => Nat.le_of_ble_eq_true rfl) ?_
  intro p e R s m args below meth c Q g A H0 H locs ls hc hR hml hw hl hQ
  have hl : lv_has ls 13 [(0, .ref (xr g 1)), (1, .ref (xr g (100 + 2 * a1.toNatClampNeg))), (2, .int a2), (3, .int a3), (4, .ref (xr g 5))] := hl
  have hx := hc.1
  have hb := hc.2.1
  unfold xf_H_chanceOf at hf
  refine lv_aload_n hx hb dX1_chanceOf_0 rfl (lv_at hl 0 rfl) ?_
  refine lv_aload_n hx hb dX1_chanceOf_1 rfl (lv_at hl 1 rfl) ?_
  refine lv_iload_n hx hb dX1_chanceOf_2 rfl (lv_at hl 2 rfl) ?_
  refine lv_iload_n hx hb dX1_chanceOf_3 rfl (lv_at hl 3 rfl) ?_
  obtain ⟨S1, hcall, hf⟩ := bd1_some hf
  refine x_cvv (As := [.ref (xr g (100 + 2 * a1.toNatClampNeg)), .int a2, .int a3]) (rest := []) hc hw hR (hml.trans hl.1.symm) (cx_H_layLine l N S a1 a2 a3 S1 hcall) xq_1_H_layLine (x_recv_hall hw) (by decide) rfl rfl rfl (Nat.le_of_ble_eq_true rfl) dX1_chanceOf_4 (fun H locs hw => ?_) ⟨Nat.zero_le _, Nat.zero_le _⟩
  refine lv_aload_n hx hb dX1_chanceOf_7 rfl (lv_at hl 0 rfl) ?_
  obtain ⟨v2, hcall, hf⟩ := bd1_some hf
  refine x_cvi (As := []) (rest := []) hc hw hR (hml.trans hl.1.symm) (cx_H_hidingPost l N S1 v2 hcall) xq_1_H_hidingPost (x_recv_hall hw) (by decide) rfl rfl rfl (Nat.le_of_ble_eq_true rfl) dX1_chanceOf_8 (fun H locs hw => ?_) ⟨Nat.zero_le _, Nat.zero_le _⟩
  refine lv_iconst (v := (-1)) hx hb dX1_chanceOf_11 (by decide) ?_
  obtain ⟨v3, hv3⟩ : ∃ y : Int64, y = (if v2 = (-1) then 1 else 0) := ⟨_, rfl⟩
  try rw [← hv3] at hf
  have kJ39 : ∀ v3x : Int64, v3 = v3x → ∀ (H : Heap) (locs : List Loc) (ls : Array Slot), xI g A H0 s S1 H locs → lv_has ls 13 [(0, .ref (xr g 1)), (1, .ref (xr g (100 + 2 * a1.toNatClampNeg))), (4, .ref (xr g 5))] → W p l e R s m args below meth c H locs 0 0 Q (F0 m 20 ls [.long v3x]) := by
    intro v3x hxv3 H locs ls hw hl
    subst hxv3
    refine lv_lstore (lv' := [(5, .long v3), (0, .ref (xr g 1)), (1, .ref (xr g (100 + 2 * a1.toNatClampNeg))), (4, .ref (xr g 5))]) hx hb dX1_chanceOf_20 hl (by decide) rfl (fun ls hl => ?_)
    refine lv_lconst (v := 1) hx hb dX1_chanceOf_22 rfl ?_
    refine lv_lstore (lv' := [(7, .long 1), (5, .long v3), (0, .ref (xr g 1)), (1, .ref (xr g (100 + 2 * a1.toNatClampNeg))), (4, .ref (xr g 5))]) hx hb dX1_chanceOf_23 hl (by decide) rfl (fun ls hl => ?_)
    refine lv_aload_n hx hb dX1_chanceOf_25 rfl (lv_at hl 2 rfl) ?_
    obtain ⟨v4, hcall, hf⟩ := bd1_some hf
    refine x_cvi (As := []) (rest := []) hc hw hR (hml.trans hl.1.symm) (cx_H_allCounts l N S1 v4 hcall) xq_1_H_allCounts (x_recv_hall hw) (by decide) rfl rfl rfl (Nat.le_of_ble_eq_true rfl) dX1_chanceOf_26 (fun H locs hw => ?_) ⟨Nat.zero_le _, Nat.zero_le _⟩
    refine lv_istore (lv' := [(9, .int v4), (7, .long 1), (5, .long v3), (0, .ref (xr g 1)), (1, .ref (xr g (100 + 2 * a1.toNatClampNeg))), (4, .ref (xr g 5))]) hx hb dX1_chanceOf_29 hl (by decide) rfl (fun ls hl => ?_)
    refine lv_iconst (v := 0) hx hb dX1_chanceOf_31 (by decide) ?_
    refine lv_istore (lv' := [(10, .int 0), (9, .int v4), (7, .long 1), (5, .long v3), (0, .ref (xr g 1)), (1, .ref (xr g (100 + 2 * a1.toNatClampNeg))), (4, .ref (xr g 5))]) hx hb dX1_chanceOf_32 hl (by decide) rfl (fun ls hl => ?_)
    obtain ⟨v27, v28, hL, hf⟩ := bd2_some hf
    refine wx_H_chanceOf_L34 hc hR hml N a1 v4 N _ _ _ _ _ _ _ _ hL hw (lv_sub hl [4, 5, 6, 3, 2, 1, 0] rfl) (fun H locs ls hw hl => ?_)
    refine lv_lload hx hb dX1_chanceOf_144 (lv_at hl 1 rfl) ?_
    refine lv_lload hx hb dX1_chanceOf_146 (lv_at hl 2 rfl) ?_
    refine lv_aload hx hb dX1_chanceOf_148 (lv_at hl 0 rfl) ?_
    obtain ⟨S29, hcall, hf⟩ := bd1_some hf
    refine x_csvN (As := [.long v27, .long v28, .ref (xr g 5)]) (rest := []) hc hw hR (hml.trans hl.1.symm) (cx_X_reduce l N S1 v27 v28 S29 hcall) xq_1_X_reduce (by decide) rfl rfl rfl (Nat.le_of_ble_eq_true rfl) dX1_chanceOf_150 (fun H locs hw => ?_) ⟨Nat.zero_le _, Nat.zero_le _⟩
    obtain rfl := Option.some.inj hf
    exact hQ _ _ _ _ dX1_chanceOf_153 hw
  refine lv_icmp_ne (tgt := 19) hx hb dX1_chanceOf_12 (by decide) (fun cn40 => ?_) (fun cn40 => ?_)
  · refine lv_lconst (v := 0) hx hb dX1_chanceOf_19 rfl ?_
    have ev3 : v3 = 0 := by rw [hv3]; simp only [if_neg cn40]
    exact kJ39 _ ev3 _ _ _ hw (lv_sub hl [0, 1, 4] rfl)
  · refine lv_lconst (v := 1) hx hb dX1_chanceOf_15 rfl ?_
    refine lv_goto (tgt := 20) hx hb dX1_chanceOf_16 (by decide) ?_
    have ev3 : v3 = 1 := by rw [hv3]; simp only [if_pos cn40]
    exact kJ39 _ ev3 _ _ _ hw (lv_sub hl [0, 1, 4] rfl)
def xf_H_likeOf (N : Nat) (S : xS) (a1 : Int32) (a2 : Int32) (a3 : Int32) : Option (Int32 × xS) := (bd1 (xf_H_nameSeat N S a1 a2) fun S1 => (if ok a3 6 then (bd2 (xf_H_byLaw N (xs (xs S1 25 (0 : Int32).toNatClampNeg (S1.1 13 a3.toNatClampNeg)) 25 (1 : Int32).toNatClampNeg (((xs S1 25 (0 : Int32).toNatClampNeg (S1.1 13 a3.toNatClampNeg)).1 12 a3.toNatClampNeg) + ((xs S1 25 (0 : Int32).toNatClampNeg (S1.1 13 a3.toNatClampNeg)).1 21 0))) 0 99) fun v3 S4 => some (v3, S4)) else none))
set_option maxRecDepth 100000 in
theorem cx_H_likeOf (l : Launch) (N : Nat) (S : xS) (a1 : Int32) (a2 : Int32) (a3 : Int32) (res : Int32) (S1 : xS) (hf : xf_H_likeOf N S a1 a2 a3 = some (res, S1)) : xMi l yX1_likeOf cX1_likeOf 4 .int 5 (fun g => [.ref (xr g 1), .ref (xr g (100 + 2 * a1.toNatClampNeg)), .int a2, .int a3]) S res S1 := by
  refine xMi_of (own := RX1) (by decide) rfl rfl (fun g => Nat.le_of_ble_eq_true rfl) ?_
  intro p e R s m args below meth c Q g A H0 H locs ls hc hR hml hw hl hQ
  have hl : lv_has ls 4 [(0, .ref (xr g 1)), (1, .ref (xr g (100 + 2 * a1.toNatClampNeg))), (2, .int a2), (3, .int a3)] := hl
  have hx := hc.1
  have hb := hc.2.1
  unfold xf_H_likeOf at hf
  refine lv_aload_n hx hb dX1_likeOf_0 rfl (lv_at hl 0 rfl) ?_
  refine lv_aload_n hx hb dX1_likeOf_1 rfl (lv_at hl 1 rfl) ?_
  refine lv_iload_n hx hb dX1_likeOf_2 rfl (lv_at hl 2 rfl) ?_
  obtain ⟨S1, hcall, hf⟩ := bd1_some hf
  refine x_cvv (As := [.ref (xr g (100 + 2 * a1.toNatClampNeg)), .int a2]) (rest := []) hc hw hR (hml.trans hl.1.symm) (cx_H_nameSeat l N S a1 a2 S1 hcall) xq_1_H_nameSeat (x_recv_hall hw) (by decide) rfl rfl rfl (Nat.le_of_ble_eq_true rfl) dX1_likeOf_3 (fun H locs hw => ?_) ⟨Nat.zero_le _, Nat.zero_le _⟩
  refine lv_aload_n hx hb dX1_likeOf_6 rfl (lv_at hl 0 rfl) ?_
  refine x_g_hall_names hc hw fl_1_79 dX1_likeOf_7 ?_
  refine lv_iconst (v := 0) hx hb dX1_likeOf_10 (by decide) ?_
  refine lv_aload_n hx hb dX1_likeOf_11 rfl (lv_at hl 0 rfl) ?_
  refine x_g_hall_pointValues hc hw fl_1_33 dX1_likeOf_12 ?_
  refine lv_iload_n hx hb dX1_likeOf_15 rfl (lv_at hl 3 rfl) ?_
  obtain ⟨hi2, hf⟩ := gd_some hf
  refine x_l_hall_pointValues hc hw (ok_in hi2) dX1_likeOf_16 ?_
  refine x_s_hall_names hc hw (ok_in (by decide)) dX1_likeOf_17 (fun H locs hw => ?_)
  refine lv_aload_n hx hb dX1_likeOf_18 rfl (lv_at hl 0 rfl) ?_
  refine x_g_hall_names hc hw fl_1_79 dX1_likeOf_19 ?_
  refine lv_iconst (v := 1) hx hb dX1_likeOf_22 (by decide) ?_
  refine lv_aload_n hx hb dX1_likeOf_23 rfl (lv_at hl 0 rfl) ?_
  refine x_g_hall_pointHighs hc hw fl_1_30 dX1_likeOf_24 ?_
  refine lv_iload_n hx hb dX1_likeOf_27 rfl (lv_at hl 3 rfl) ?_
  refine x_l_hall_pointHighs hc hw (ok_in hi2) dX1_likeOf_28 ?_
  refine lv_aload_n hx hb dX1_likeOf_29 rfl (lv_at hl 0 rfl) ?_
  refine x_g_hall_stageLift hc hw fl_1_59 dX1_likeOf_30 ?_
  refine lv_iadd hx hb dX1_likeOf_33 ?_
  refine x_s_hall_names hc hw (ok_in (by decide)) dX1_likeOf_34 (fun H locs hw => ?_)
  refine lv_aload_n hx hb dX1_likeOf_35 rfl (lv_at hl 0 rfl) ?_
  refine lv_iconst (v := 0) hx hb dX1_likeOf_36 (by decide) ?_
  refine lv_bipush (v := 99) hx hb dX1_likeOf_37 (by decide) ?_
  obtain ⟨v3, S4, hcall, hf⟩ := bd2_some hf
  refine x_cvi (As := [.int 0, .int 99]) (rest := []) hc hw hR (hml.trans hl.1.symm) (cx_H_byLaw l N (xs (xs S1 25 (0 : Int32).toNatClampNeg (S1.1 13 a3.toNatClampNeg)) 25 (1 : Int32).toNatClampNeg (((xs S1 25 (0 : Int32).toNatClampNeg (S1.1 13 a3.toNatClampNeg)).1 12 a3.toNatClampNeg) + ((xs S1 25 (0 : Int32).toNatClampNeg (S1.1 13 a3.toNatClampNeg)).1 21 0))) 0 99 v3 S4 hcall) xq_1_H_byLaw (x_recv_hall hw) (by decide) rfl rfl rfl (Nat.le_of_ble_eq_true rfl) dX1_likeOf_39 (fun H locs hw => ?_) ⟨Nat.zero_le _, Nat.zero_le _⟩
  obtain ⟨rfl, rfl⟩ := pr2_some hf
  exact hQ _ _ _ _ dX1_likeOf_42 hw
def xf_H_costOfRows_L4 (N : Nat) : Nat → xS → Int32 → Int32 → Option (Int32 × xS)
  | 0, _, _, _ => none
  | n + 1, S3, v1, v2 => (if (S3.1 16 0) ≤ v2 then some (v1, S3) else (bd1 (xf_H_stepOf N S3 v2) fun v4 => (if v4 = 0 then xf_H_costOfRows_L4 N n S3 v1 (v2 + 1) else (if ok v2 6 then (if v2.toNatClampNeg < S3.2.2.1 then (bd2 (xf_H_byLaw N (xs (xs (xs (xs (xs (xs S3 25 (0 : Int32).toNatClampNeg 0) 25 (1 : Int32).toNatClampNeg v4) 25 (2 : Int32).toNatClampNeg v2) 25 (3 : Int32).toNatClampNeg 0) 25 (4 : Int32).toNatClampNeg ((xs (xs (xs (xs S3 25 (0 : Int32).toNatClampNeg 0) 25 (1 : Int32).toNatClampNeg v4) 25 (2 : Int32).toNatClampNeg v2) 25 (3 : Int32).toNatClampNeg 0).1 57 v2.toNatClampNeg)) 25 (5 : Int32).toNatClampNeg 0) 2 999) fun v7 S8 => xf_H_costOfRows_L4 N n S8 (v1 + v7) (v2 + 1)) else none) else none))))
set_option maxRecDepth 100000 in
theorem wx_H_costOfRows_L4 {p : Program} {l : Launch} {e : Env} {R : Room} {s : State} {m : MethodId} {args : Array Value} {below : List Frame} {meth : Method} {c : Code} {Q : State → Prop} {g : xG} {A : Nat → Prop} {H0 : Heap} (hc : qC RX1 cX1_costOfRows p s m args c) (hR : qRoom R 5) (hml : c.maxLocals = 4) (N : Nat) : ∀ (n : Nat) (S3 : xS) (v1 : Int32) (v2 : Int32) (X : Int32 × xS) (H : Heap) (locs : List Loc) (ls : Array Slot), xf_H_costOfRows_L4 N n S3 v1 v2 = some X → xI g A H0 s S3 H locs → lv_has ls 4 [(0, .ref (xr g 1)), (1, .int v1), (2, .int v2)] → (∀ (H : Heap) (locs : List Loc) (ls : Array Slot), xI g A H0 s X.2 H locs → lv_has ls 4 [(1, .int X.1)] → W p l e R s m args below meth c H locs 0 0 Q (F0 m 89 ls [])) → W p l e R s m args below meth c H locs 0 0 Q (F0 m 4 ls []) := by
  have hx := hc.1
  have hb := hc.2.1
  intro n
  induction n with
  | zero => intro _ _ _ X H locs ls hf; exact nomatch (show none = some X from hf)
  | succ n ih =>
    intro S3 v1 v2 X H locs ls hf hw hl kx
    rw [xf_H_costOfRows_L4] at hf
    refine lv_iload_n hx hb dX1_costOfRows_4 rfl (lv_at hl 2 rfl) ?_
    refine lv_aload_n hx hb dX1_costOfRows_5 rfl (lv_at hl 0 rfl) ?_
    refine x_g_hall_rowCount hc hw fl_1_42 dX1_costOfRows_6 ?_
    refine lv_icmp_ge (tgt := 89) hx hb dX1_costOfRows_9 (by decide) (fun cn11 => ?_) (fun cn11 => ?_)
    · have hf := (if_pos cn11).symm.trans hf
      obtain rfl := Option.some.inj hf
      exact kx _ _ _ hw (lv_sub hl [1] rfl)
    · have hf := (if_neg cn11).symm.trans hf
      refine lv_aload_n hx hb dX1_costOfRows_12 rfl (lv_at hl 0 rfl) ?_
      refine lv_iload_n hx hb dX1_costOfRows_13 rfl (lv_at hl 2 rfl) ?_
      obtain ⟨v4, hcall, hf⟩ := bd1_some hf
      refine x_cvi (As := [.int v2]) (rest := []) hc hw hR (hml.trans hl.1.symm) (cx_H_stepOf l N S3 v2 v4 hcall) xq_1_H_stepOf (x_recv_hall hw) (by decide) rfl rfl rfl (Nat.le_of_ble_eq_true rfl) dX1_costOfRows_14 (fun H locs hw => ?_) ⟨Nat.zero_le _, Nat.zero_le _⟩
      refine lv_istore_n (lv' := [(3, .int v4), (0, .ref (xr g 1)), (1, .int v1), (2, .int v2)]) hx hb dX1_costOfRows_17 rfl hl (by decide) rfl (fun ls hl => ?_)
      refine lv_iload_n hx hb dX1_costOfRows_18 rfl (lv_at hl 0 rfl) ?_
      refine lv_if_eq (tgt := 83) hx hb dX1_costOfRows_19 (by decide) (fun cn12 => ?_) (fun cn12 => ?_)
      · have hf := (if_pos cn12).symm.trans hf
        refine lv_iinc (lv' := [(2, .int (v2 + 1)), (3, .int v4), (0, .ref (xr g 1)), (1, .int v1)]) hx hb dX1_costOfRows_83 hl (k := 3) rfl rfl (by decide) rfl (fun ls hl => ?_)
        refine lv_goto (tgt := 4) hx hb dX1_costOfRows_86 (by decide) ?_
        exact ih _ _ _ X _ _ _ hf hw (lv_sub hl [2, 3, 0] rfl) kx
      · have hf := (if_neg cn12).symm.trans hf
        refine lv_aload_n hx hb dX1_costOfRows_22 rfl (lv_at hl 1 rfl) ?_
        refine x_g_hall_names hc hw fl_1_79 dX1_costOfRows_23 ?_
        refine lv_iconst (v := 0) hx hb dX1_costOfRows_26 (by decide) ?_
        refine lv_iconst (v := 0) hx hb dX1_costOfRows_27 (by decide) ?_
        refine x_s_hall_names hc hw (ok_in (by decide)) dX1_costOfRows_28 (fun H locs hw => ?_)
        refine lv_aload_n hx hb dX1_costOfRows_29 rfl (lv_at hl 1 rfl) ?_
        refine x_g_hall_names hc hw fl_1_79 dX1_costOfRows_30 ?_
        refine lv_iconst (v := 1) hx hb dX1_costOfRows_33 (by decide) ?_
        refine lv_iload_n hx hb dX1_costOfRows_34 rfl (lv_at hl 0 rfl) ?_
        refine x_s_hall_names hc hw (ok_in (by decide)) dX1_costOfRows_35 (fun H locs hw => ?_)
        refine lv_aload_n hx hb dX1_costOfRows_36 rfl (lv_at hl 1 rfl) ?_
        refine x_g_hall_names hc hw fl_1_79 dX1_costOfRows_37 ?_
        refine lv_iconst (v := 2) hx hb dX1_costOfRows_40 (by decide) ?_
        refine lv_iload_n hx hb dX1_costOfRows_41 rfl (lv_at hl 3 rfl) ?_
        refine x_s_hall_names hc hw (ok_in (by decide)) dX1_costOfRows_42 (fun H locs hw => ?_)
        refine lv_aload_n hx hb dX1_costOfRows_43 rfl (lv_at hl 1 rfl) ?_
        refine x_g_hall_names hc hw fl_1_79 dX1_costOfRows_44 ?_
        refine lv_iconst (v := 3) hx hb dX1_costOfRows_47 (by decide) ?_
        refine lv_iconst (v := 0) hx hb dX1_costOfRows_48 (by decide) ?_
        refine x_s_hall_names hc hw (ok_in (by decide)) dX1_costOfRows_49 (fun H locs hw => ?_)
        refine lv_aload_n hx hb dX1_costOfRows_50 rfl (lv_at hl 1 rfl) ?_
        refine x_g_hall_names hc hw fl_1_79 dX1_costOfRows_51 ?_
        refine lv_iconst (v := 4) hx hb dX1_costOfRows_54 (by decide) ?_
        refine lv_aload_n hx hb dX1_costOfRows_55 rfl (lv_at hl 1 rfl) ?_
        refine x_g_hall_rows hc hw fl_1_23 dX1_costOfRows_56 ?_
        refine lv_iload_n hx hb dX1_costOfRows_59 rfl (lv_at hl 3 rfl) ?_
        obtain ⟨hi5, hf⟩ := gd_some hf
        obtain ⟨hr6, hf⟩ := gd_some hf
        refine x_l_rows hc hw (ok_in hi5) hr6 dX1_costOfRows_60 ?_
        refine x_rg_rise hc hw hr6 fl_1_89 dX1_costOfRows_61 ?_
        refine x_s_hall_names hc hw (ok_in (by decide)) dX1_costOfRows_64 (fun H locs hw => ?_)
        refine lv_aload_n hx hb dX1_costOfRows_65 rfl (lv_at hl 1 rfl) ?_
        refine x_g_hall_names hc hw fl_1_79 dX1_costOfRows_66 ?_
        refine lv_iconst (v := 5) hx hb dX1_costOfRows_69 (by decide) ?_
        refine lv_iconst (v := 0) hx hb dX1_costOfRows_70 (by decide) ?_
        refine x_s_hall_names hc hw (ok_in (by decide)) dX1_costOfRows_71 (fun H locs hw => ?_)
        refine lv_iload_n hx hb dX1_costOfRows_72 rfl (lv_at hl 2 rfl) ?_
        refine lv_aload_n hx hb dX1_costOfRows_73 rfl (lv_at hl 1 rfl) ?_
        refine lv_iconst (v := 2) hx hb dX1_costOfRows_74 (by decide) ?_
        refine lv_sipush (v := 999) hx hb dX1_costOfRows_75 (by decide) ?_
        obtain ⟨v7, S8, hcall, hf⟩ := bd2_some hf
        refine x_cvi (As := [.int 2, .int 999]) (rest := [.int v1]) hc hw hR (hml.trans hl.1.symm) (cx_H_byLaw l N (xs (xs (xs (xs (xs (xs S3 25 (0 : Int32).toNatClampNeg 0) 25 (1 : Int32).toNatClampNeg v4) 25 (2 : Int32).toNatClampNeg v2) 25 (3 : Int32).toNatClampNeg 0) 25 (4 : Int32).toNatClampNeg ((xs (xs (xs (xs S3 25 (0 : Int32).toNatClampNeg 0) 25 (1 : Int32).toNatClampNeg v4) 25 (2 : Int32).toNatClampNeg v2) 25 (3 : Int32).toNatClampNeg 0).1 57 v2.toNatClampNeg)) 25 (5 : Int32).toNatClampNeg 0) 2 999 v7 S8 hcall) xq_1_H_byLaw (x_recv_hall hw) (by decide) rfl rfl rfl (Nat.le_of_ble_eq_true rfl) dX1_costOfRows_78 (fun H locs hw => ?_) ⟨Nat.zero_le _, Nat.zero_le _⟩
        refine lv_iadd hx hb dX1_costOfRows_81 ?_
        refine lv_istore_n (lv' := [(1, .int (v1 + v7)), (3, .int v4), (0, .ref (xr g 1)), (2, .int v2)]) hx hb dX1_costOfRows_82 rfl hl (by decide) rfl (fun ls hl => ?_)
        refine lv_iinc (lv' := [(2, .int (v2 + 1)), (1, .int (v1 + v7)), (3, .int v4), (0, .ref (xr g 1))]) hx hb dX1_costOfRows_83 hl (k := 3) rfl rfl (by decide) rfl (fun ls hl => ?_)
        refine lv_goto (tgt := 4) hx hb dX1_costOfRows_86 (by decide) ?_
        exact ih _ _ _ X _ _ _ hf hw (lv_sub hl [3, 1, 0] rfl) kx
def xf_H_costOfRows (N : Nat) (S : xS) : Option (Int32 × xS) := (bd2 (xf_H_costOfRows_L4 N N S 0 0) fun v9 S10 => some (v9, S10))
set_option maxRecDepth 100000 in
theorem cx_H_costOfRows (l : Launch) (N : Nat) (S : xS) (res : Int32) (S1 : xS) (hf : xf_H_costOfRows N S = some (res, S1)) : xMi l yX1_costOfRows cX1_costOfRows 4 .int 5 (fun g => [.ref (xr g 1)]) S res S1 := by
  refine xMi_of (own := RX1) (by decide) rfl rfl (fun g => Nat.le_of_ble_eq_true rfl) ?_
  intro p e R s m args below meth c Q g A H0 H locs ls hc hR hml hw hl hQ
  have hl : lv_has ls 4 [(0, .ref (xr g 1))] := hl
  have hx := hc.1
  have hb := hc.2.1
  unfold xf_H_costOfRows at hf
  refine lv_iconst (v := 0) hx hb dX1_costOfRows_0 (by decide) ?_
  refine lv_istore_n (lv' := [(1, .int 0), (0, .ref (xr g 1))]) hx hb dX1_costOfRows_1 rfl hl (by decide) rfl (fun ls hl => ?_)
  refine lv_iconst (v := 0) hx hb dX1_costOfRows_2 (by decide) ?_
  refine lv_istore_n (lv' := [(2, .int 0), (1, .int 0), (0, .ref (xr g 1))]) hx hb dX1_costOfRows_3 rfl hl (by decide) rfl (fun ls hl => ?_)
  obtain ⟨v9, S10, hL, hf⟩ := bd2_some hf
  refine wx_H_costOfRows_L4 hc hR hml N N _ _ _ _ _ _ _ hL hw (lv_sub hl [2, 1, 0] rfl) (fun H locs ls hw hl => ?_)
  refine lv_iload_n hx hb dX1_costOfRows_89 rfl (lv_at hl 0 rfl) ?_
  obtain ⟨rfl, rfl⟩ := pr2_some hf
  exact hQ _ _ _ _ dX1_costOfRows_90 hw
def xf_X_hidden (N : Nat) (S : xS) (a1 : Int32) (a2 : Int32) (a3 : Int32) : Option (Int32 × xS) := (bd1 (xf_H_rowWith N S a1 a2) fun v1 => (if v1 < 0 then some ((-5), S) else (if (xf_X_isPoint S a3) = true then (bd2 (xf_H_hiderOf N S v1 a2 a3) fun v3 S4 => some (v3, S4)) else some ((-7), S))))
set_option maxRecDepth 100000 in
theorem cx_X_hidden (l : Launch) (N : Nat) (S : xS) (a1 : Int32) (a2 : Int32) (a3 : Int32) (res : Int32) (S1 : xS) (hf : xf_X_hidden N S a1 a2 a3 = some (res, S1)) : xMi l yX11_hidden cX11_hidden 5 .int 6 (fun g => [.ref (xr g 0), .int a1, .int a2, .int a3]) S res S1 := by
  refine xMi_of (own := RX11) (by decide) rfl rfl (fun g => Nat.le_of_ble_eq_true rfl) ?_
  intro p e R s m args below meth c Q g A H0 H locs ls hc hR hml hw hl hQ
  have hl : lv_has ls 5 [(0, .ref (xr g 0)), (1, .int a1), (2, .int a2), (3, .int a3)] := hl
  have hx := hc.1
  have hb := hc.2.1
  unfold xf_X_hidden at hf
  refine lv_aload_n hx hb dX11_hidden_0 rfl (lv_at hl 0 rfl) ?_
  refine x_g_this_hall hc hw fl_11_10 dX11_hidden_1 ?_
  refine lv_iload_n hx hb dX11_hidden_4 rfl (lv_at hl 1 rfl) ?_
  refine lv_iload_n hx hb dX11_hidden_5 rfl (lv_at hl 2 rfl) ?_
  obtain ⟨v1, hcall, hf⟩ := bd1_some hf
  refine x_cvr (As := [.int a1, .int a2]) (rest := []) hc hw hR (hml.trans hl.1.symm) (cx_H_rowWith l N S a1 a2 v1 hcall) xq_11_H_rowWith (x_recv_hall hw) (by decide) rfl rfl rfl (Nat.le_of_ble_eq_true rfl) dX11_hidden_6 (fun H locs hw => ?_) ⟨Nat.zero_le _, Nat.zero_le _⟩
  refine x_splitr (fun cn2 => ?_) (fun cn2 => ?_)
  · have hf := (if_pos cn2).symm.trans hf
    refine lv_astoreN (lv' := [(4, .null), (0, .ref (xr g 0)), (1, .int a1), (2, .int a2), (3, .int a3)]) hx hb dX11_hidden_9 hl (by decide) rfl (fun ls hl => ?_)
    refine lv_aloadN hx hb dX11_hidden_11 (lv_at hl 0 rfl) ?_
    refine lv_ifnonnullN hx hb dX11_hidden_13 ?_
    refine lv_bipush (v := (-5)) hx hb dX11_hidden_16 (by decide) ?_
    obtain ⟨rfl, rfl⟩ := pr2_some hf
    exact hQ _ _ _ _ dX11_hidden_18 hw
  · have hf := (if_neg cn2).symm.trans hf
    refine lv_astore (lv' := [(4, .ref (xr g (100 + 2 * v1.toNatClampNeg))), (0, .ref (xr g 0)), (1, .int a1), (2, .int a2), (3, .int a3)]) hx hb dX11_hidden_9 hl (by decide) rfl (fun ls hl => ?_)
    refine lv_aload hx hb dX11_hidden_11 (lv_at hl 0 rfl) ?_
    refine lv_ifnonnull (tgt := 19) hx hb dX11_hidden_13 (by decide) ?_
    refine lv_aload_n hx hb dX11_hidden_19 rfl (lv_at hl 1 rfl) ?_
    refine lv_iload_n hx hb dX11_hidden_20 rfl (lv_at hl 4 rfl) ?_
    refine x_cvi (As := [.int a3]) (rest := []) hc hw hR (hml.trans hl.1.symm) (cx_X_isPoint l S a3 _ rfl) xq_11_X_isPoint (x_recv_this hw) (by decide) rfl rfl rfl (Nat.le_of_ble_eq_true rfl) dX11_hidden_21 (fun H locs hw => ?_) ⟨Nat.zero_le _, Nat.zero_le _⟩
    refine lv_if_eqb (tgt := 41) hx hb dX11_hidden_24 (by decide) (fun cn5 => ?_) (fun cn5 => ?_)
    · have hf := (if_neg cn5).symm.trans hf
      refine lv_bipush (v := (-7)) hx hb dX11_hidden_41 (by decide) ?_
      obtain ⟨rfl, rfl⟩ := pr2_some hf
      exact hQ _ _ _ _ dX11_hidden_43 hw
    · have hf := (if_pos cn5).symm.trans hf
      refine lv_aload_n hx hb dX11_hidden_27 rfl (lv_at hl 1 rfl) ?_
      refine x_g_this_hall hc hw fl_11_10 dX11_hidden_28 ?_
      refine lv_aload hx hb dX11_hidden_31 (lv_at hl 0 rfl) ?_
      refine lv_iload_n hx hb dX11_hidden_33 rfl (lv_at hl 3 rfl) ?_
      refine lv_iload_n hx hb dX11_hidden_34 rfl (lv_at hl 4 rfl) ?_
      obtain ⟨v3, S4, hcall, hf⟩ := bd2_some hf
      refine x_cvi (As := [.ref (xr g (100 + 2 * v1.toNatClampNeg)), .int a2, .int a3]) (rest := []) hc hw hR (hml.trans hl.1.symm) (cx_H_hiderOf l N S v1 a2 a3 v3 S4 hcall) xq_11_H_hiderOf (x_recv_hall hw) (by decide) rfl rfl rfl (Nat.le_of_ble_eq_true rfl) dX11_hidden_35 (fun H locs hw => ?_) ⟨Nat.zero_le _, Nat.zero_le _⟩
      refine lv_goto (tgt := 43) hx hb dX11_hidden_38 (by decide) ?_
      obtain ⟨rfl, rfl⟩ := pr2_some hf
      exact hQ _ _ _ _ dX11_hidden_43 hw
def xf_X_cost (N : Nat) (S : xS) : Option (Int32 × xS) := (bd2 (xf_H_costOfRows N S) fun v1 S2 => some (v1, S2))
set_option maxRecDepth 100000 in
theorem cx_X_cost (l : Launch) (N : Nat) (S : xS) (res : Int32) (S1 : xS) (hf : xf_X_cost N S = some (res, S1)) : xMi l yX11_cost cX11_cost 1 .int 6 (fun g => [.ref (xr g 0)]) S res S1 := by
  refine xMi_of (own := RX11) (by decide) rfl rfl (fun g => Nat.le_of_ble_eq_true rfl) ?_
  intro p e R s m args below meth c Q g A H0 H locs ls hc hR hml hw hl hQ
  have hl : lv_has ls 1 [(0, .ref (xr g 0))] := hl
  have hx := hc.1
  have hb := hc.2.1
  unfold xf_X_cost at hf
  refine lv_aload_n hx hb dX11_cost_0 rfl (lv_at hl 0 rfl) ?_
  refine x_g_this_hall hc hw fl_11_10 dX11_cost_1 ?_
  obtain ⟨v1, S2, hcall, hf⟩ := bd2_some hf
  refine x_cvi (As := []) (rest := []) hc hw hR (hml.trans hl.1.symm) (cx_H_costOfRows l N S v1 S2 hcall) xq_11_H_costOfRows (x_recv_hall hw) (by decide) rfl rfl rfl (Nat.le_of_ble_eq_true rfl) dX11_cost_4 (fun H locs hw => ?_) ⟨Nat.zero_le _, Nat.zero_le _⟩
  obtain ⟨rfl, rfl⟩ := pr2_some hf
  exact hQ _ _ _ _ dX11_cost_7 hw
def xf_X_chance (N : Nat) (S : xS) (a1 : Int32) (a2 : Int32) (a3 : Int32) (a4 : Int32) : Option (Int64 × xS) := (bd1 (xf_H_rowWith N S a1 a2) fun v1 => (if v1 < 0 then some ((-4611686018427387904), S) else (if (xf_X_isPoint S a3) = true then (if (xf_X_isIn a4 0 1) = true then (bd1 (xf_H_allCounts N S) fun v3 => (if v3 = 0 then some ((-4611686018427387904), S) else (bd1 (xf_H_chanceOf N S v1 a2 a3) fun S4 => (if ok a4 2 then some (S4.2.1 0 a4.toNatClampNeg, S4) else none)))) else some ((-4611686018427387904), S)) else some ((-4611686018427387904), S))))
set_option maxRecDepth 100000 in
theorem cx_X_chance (l : Launch) (N : Nat) (S : xS) (a1 : Int32) (a2 : Int32) (a3 : Int32) (a4 : Int32) (res : Int64) (S1 : xS) (hf : xf_X_chance N S a1 a2 a3 a4 = some (res, S1)) : xMl l yX11_chance cX11_chance 6 6 (fun g => [.ref (xr g 0), .int a1, .int a2, .int a3, .int a4]) S res S1 := by
  refine xMl_of (own := RX11) (by decide) rfl (fun g => Nat.le_of_ble_eq_true rfl) ?_
  intro p e R s m args below meth c Q g A H0 H locs ls hc hR hml hw hl hQ
  have hl : lv_has ls 6 [(0, .ref (xr g 0)), (1, .int a1), (2, .int a2), (3, .int a3), (4, .int a4)] := hl
  have hx := hc.1
  have hb := hc.2.1
  unfold xf_X_chance at hf
  refine lv_aload_n hx hb dX11_chance_0 rfl (lv_at hl 0 rfl) ?_
  refine x_g_this_hall hc hw fl_11_10 dX11_chance_1 ?_
  refine lv_iload_n hx hb dX11_chance_4 rfl (lv_at hl 1 rfl) ?_
  refine lv_iload_n hx hb dX11_chance_5 rfl (lv_at hl 2 rfl) ?_
  obtain ⟨v1, hcall, hf⟩ := bd1_some hf
  refine x_cvr (As := [.int a1, .int a2]) (rest := []) hc hw hR (hml.trans hl.1.symm) (cx_H_rowWith l N S a1 a2 v1 hcall) xq_11_H_rowWith (x_recv_hall hw) (by decide) rfl rfl rfl (Nat.le_of_ble_eq_true rfl) dX11_chance_6 (fun H locs hw => ?_) ⟨Nat.zero_le _, Nat.zero_le _⟩
  refine x_splitr (fun cn2 => ?_) (fun cn2 => ?_)
  · have hf := (if_pos cn2).symm.trans hf
    refine lv_astoreN (lv' := [(5, .null), (0, .ref (xr g 0)), (1, .int a1), (2, .int a2), (3, .int a3), (4, .int a4)]) hx hb dX11_chance_9 hl (by decide) rfl (fun ls hl => ?_)
    refine lv_aloadN hx hb dX11_chance_11 (lv_at hl 0 rfl) ?_
    refine lv_ifnullN (tgt := 44) hx hb dX11_chance_13 (by decide) ?_
    refine lv_ldc2 (v := (-4611686018427387904)) hx hb hc.2.2.1 (hc.2.2.2 _ (mem_g 960 (by decide +kernel) rfl)) dX11_chance_44 ?_
    obtain ⟨rfl, rfl⟩ := pr2_some hf
    exact hQ _ _ _ _ dX11_chance_47 hw
  · have hf := (if_neg cn2).symm.trans hf
    refine lv_astore (lv' := [(5, .ref (xr g (100 + 2 * v1.toNatClampNeg))), (0, .ref (xr g 0)), (1, .int a1), (2, .int a2), (3, .int a3), (4, .int a4)]) hx hb dX11_chance_9 hl (by decide) rfl (fun ls hl => ?_)
    refine lv_aload hx hb dX11_chance_11 (lv_at hl 0 rfl) ?_
    refine lv_ifnull hx hb dX11_chance_13 ?_
    refine lv_aload_n hx hb dX11_chance_16 rfl (lv_at hl 1 rfl) ?_
    refine lv_iload_n hx hb dX11_chance_17 rfl (lv_at hl 4 rfl) ?_
    refine x_cvi (As := [.int a3]) (rest := []) hc hw hR (hml.trans hl.1.symm) (cx_X_isPoint l S a3 _ rfl) xq_11_X_isPoint (x_recv_this hw) (by decide) rfl rfl rfl (Nat.le_of_ble_eq_true rfl) dX11_chance_18 (fun H locs hw => ?_) ⟨Nat.zero_le _, Nat.zero_le _⟩
    refine lv_if_eqb (tgt := 44) hx hb dX11_chance_21 (by decide) (fun cn6 => ?_) (fun cn6 => ?_)
    · have hf := (if_neg cn6).symm.trans hf
      refine lv_ldc2 (v := (-4611686018427387904)) hx hb hc.2.2.1 (hc.2.2.2 _ (mem_g 960 (by decide +kernel) rfl)) dX11_chance_44 ?_
      obtain ⟨rfl, rfl⟩ := pr2_some hf
      exact hQ _ _ _ _ dX11_chance_47 hw
    · have hf := (if_pos cn6).symm.trans hf
      refine lv_iload hx hb dX11_chance_24 (lv_at hl 5 rfl) ?_
      refine lv_iconst (v := 0) hx hb dX11_chance_26 (by decide) ?_
      refine lv_iconst (v := 1) hx hb dX11_chance_27 (by decide) ?_
      refine x_csi (As := [.int a4, .int 0, .int 1]) (rest := []) hc hw hR (hml.trans hl.1.symm) (cx_X_isIn l S a4 0 1 _ rfl) xq_11_X_isIn (by decide) rfl rfl rfl (Nat.le_of_ble_eq_true rfl) dX11_chance_28 (fun H locs hw => ?_) ⟨Nat.zero_le _, Nat.zero_le _⟩
      refine lv_if_eqb (tgt := 44) hx hb dX11_chance_31 (by decide) (fun cn7 => ?_) (fun cn7 => ?_)
      · have hf := (if_neg cn7).symm.trans hf
        refine lv_ldc2 (v := (-4611686018427387904)) hx hb hc.2.2.1 (hc.2.2.2 _ (mem_g 960 (by decide +kernel) rfl)) dX11_chance_44 ?_
        obtain ⟨rfl, rfl⟩ := pr2_some hf
        exact hQ _ _ _ _ dX11_chance_47 hw
      · have hf := (if_pos cn7).symm.trans hf
        refine lv_aload_n hx hb dX11_chance_34 rfl (lv_at hl 1 rfl) ?_
        refine x_g_this_hall hc hw fl_11_10 dX11_chance_35 ?_
        obtain ⟨v3, hcall, hf⟩ := bd1_some hf
        refine x_cvi (As := []) (rest := []) hc hw hR (hml.trans hl.1.symm) (cx_H_allCounts l N S v3 hcall) xq_11_H_allCounts (x_recv_hall hw) (by decide) rfl rfl rfl (Nat.le_of_ble_eq_true rfl) dX11_chance_38 (fun H locs hw => ?_) ⟨Nat.zero_le _, Nat.zero_le _⟩
        refine lv_if_ne (tgt := 48) hx hb dX11_chance_41 (by decide) (fun cn8 => ?_) (fun cn8 => ?_)
        · have hf := (if_neg cn8).symm.trans hf
          refine lv_aload_n hx hb dX11_chance_48 rfl (lv_at hl 1 rfl) ?_
          refine x_g_this_hall hc hw fl_11_10 dX11_chance_49 ?_
          refine lv_aload hx hb dX11_chance_52 (lv_at hl 0 rfl) ?_
          refine lv_iload_n hx hb dX11_chance_54 rfl (lv_at hl 3 rfl) ?_
          refine lv_iload_n hx hb dX11_chance_55 rfl (lv_at hl 4 rfl) ?_
          refine lv_aload_n hx hb dX11_chance_56 rfl (lv_at hl 1 rfl) ?_
          refine x_g_this_fraction hc hw fl_11_68 dX11_chance_57 ?_
          obtain ⟨S4, hcall, hf⟩ := bd1_some hf
          refine x_cvv (As := [.ref (xr g (100 + 2 * v1.toNatClampNeg)), .int a2, .int a3, .ref (xr g 5)]) (rest := []) hc hw hR (hml.trans hl.1.symm) (cx_H_chanceOf l N S v1 a2 a3 S4 hcall) xq_11_H_chanceOf (x_recv_hall hw) (by decide) rfl rfl rfl (Nat.le_of_ble_eq_true rfl) dX11_chance_60 (fun H locs hw => ?_) ⟨Nat.zero_le _, Nat.zero_le _⟩
          refine lv_aload_n hx hb dX11_chance_63 rfl (lv_at hl 1 rfl) ?_
          refine x_g_this_fraction hc hw fl_11_68 dX11_chance_64 ?_
          refine lv_iload hx hb dX11_chance_67 (lv_at hl 5 rfl) ?_
          obtain ⟨hi5, hf⟩ := gd_some hf
          refine x_l_this_fraction hc hw (ok_in hi5) dX11_chance_69 ?_
          obtain ⟨rfl, rfl⟩ := pr2_some hf
          exact hQ _ _ _ _ dX11_chance_70 hw
        · have hf := (if_pos cn8).symm.trans hf
          refine lv_ldc2 (v := (-4611686018427387904)) hx hb hc.2.2.1 (hc.2.2.2 _ (mem_g 960 (by decide +kernel) rfl)) dX11_chance_44 ?_
          obtain ⟨rfl, rfl⟩ := pr2_some hf
          exact hQ _ _ _ _ dX11_chance_47 hw
def xf_X_mean_L48 (N : Nat) (c4 : Int32) (c5 : Int32) (c6 : Int32) : Nat → xS → Int64 → Int64 → Int32 → Option (Int64 × Int64 × xS)
  | 0, _, _, _, _ => none
  | n + 1, S10, v7, v8, v9 => (if (S10.1 17 0) ≤ v9 then some (v7, v8, S10) else (bd1 (xf_H_chanceOf N S10 c6 c4 v9) fun S11 => (bd2 (xf_H_likeOf N S11 c6 c4 v9) fun v12 S13 => (bd1 (xf_X_commonDivisor N (S13.2.1 0 (1 : Int32).toNatClampNeg) v8) fun v14 => (if ¬ v14 = 0 then (bd1 (xf_X_commonDivisor N (S13.2.1 0 (1 : Int32).toNatClampNeg) v8) fun v16 => (if ¬ v16 = 0 then xf_X_mean_L48 N c4 c5 c6 n S13 ((v7 * ((S13.2.1 0 (1 : Int32).toNatClampNeg) / v14)) + ((v12.toInt64 * (S13.2.1 0 (0 : Int32).toNatClampNeg)) * (v8 / v16))) (v8 * ((S13.2.1 0 (1 : Int32).toNatClampNeg) / v14)) (v9 + 1) else none)) else none)))))
set_option maxRecDepth 100000 in
theorem wx_X_mean_L48 {p : Program} {l : Launch} {e : Env} {R : Room} {s : State} {m : MethodId} {args : Array Value} {below : List Frame} {meth : Method} {c : Code} {Q : State → Prop} {g : xG} {A : Nat → Prop} {H0 : Heap} (hc : qC RX11 cX11_mean p s m args c) (hR : qRoom R 6) (hml : c.maxLocals = 16) (N : Nat) (c4 : Int32) (c5 : Int32) (c6 : Int32) : ∀ (n : Nat) (S10 : xS) (v7 : Int64) (v8 : Int64) (v9 : Int32) (X : Int64 × Int64 × xS) (H : Heap) (locs : List Loc) (ls : Array Slot), xf_X_mean_L48 N c4 c5 c6 n S10 v7 v8 v9 = some X → xI g A H0 s S10 H locs → lv_has ls 16 [(0, .ref (xr g 0)), (2, .int c4), (3, .int c5), (4, .ref (xr g (100 + 2 * c6.toNatClampNeg))), (5, .long v7), (7, .long v8), (9, .int v9)] → (∀ (H : Heap) (locs : List Loc) (ls : Array Slot), xI g A H0 s X.2.2 H locs → lv_has ls 16 [(0, .ref (xr g 0)), (3, .int c5), (5, .long X.1), (7, .long X.2.1)] → W p l e R s m args below meth c H locs 0 0 Q (F0 m 160 ls [])) → W p l e R s m args below meth c H locs 0 0 Q (F0 m 48 ls []) := by
  have hx := hc.1
  have hb := hc.2.1
  intro n
  induction n with
  | zero => intro _ _ _ _ X H locs ls hf; exact nomatch (show none = some X from hf)
  | succ n ih =>
    intro S10 v7 v8 v9 X H locs ls hf hw hl kx
    rw [xf_X_mean_L48] at hf
    refine lv_iload hx hb dX11_mean_48 (lv_at hl 6 rfl) ?_
    refine lv_aload_n hx hb dX11_mean_50 rfl (lv_at hl 0 rfl) ?_
    refine x_g_this_hall hc hw fl_11_10 dX11_mean_51 ?_
    refine x_g_hall_pointCount hc hw fl_11_187 dX11_mean_54 ?_
    refine lv_icmp_ge (tgt := 160) hx hb dX11_mean_57 (by decide) (fun cn25 => ?_) (fun cn25 => ?_)
    · have hf := (if_pos cn25).symm.trans hf
      obtain rfl := Option.some.inj hf
      exact kx _ _ _ hw (lv_sub hl [0, 2, 4, 5] rfl)
    · have hf := (if_neg cn25).symm.trans hf
      refine lv_aload_n hx hb dX11_mean_60 rfl (lv_at hl 0 rfl) ?_
      refine x_g_this_hall hc hw fl_11_10 dX11_mean_61 ?_
      refine lv_aload hx hb dX11_mean_64 (lv_at hl 3 rfl) ?_
      refine lv_iload_n hx hb dX11_mean_66 rfl (lv_at hl 1 rfl) ?_
      refine lv_iload hx hb dX11_mean_67 (lv_at hl 6 rfl) ?_
      refine lv_aload_n hx hb dX11_mean_69 rfl (lv_at hl 0 rfl) ?_
      refine x_g_this_fraction hc hw fl_11_68 dX11_mean_70 ?_
      obtain ⟨S11, hcall, hf⟩ := bd1_some hf
      refine x_cvv (As := [.ref (xr g (100 + 2 * c6.toNatClampNeg)), .int c4, .int v9, .ref (xr g 5)]) (rest := []) hc hw hR (hml.trans hl.1.symm) (cx_H_chanceOf l N S10 c6 c4 v9 S11 hcall) xq_11_H_chanceOf (x_recv_hall hw) (by decide) rfl rfl rfl (Nat.le_of_ble_eq_true rfl) dX11_mean_73 (fun H locs hw => ?_) ⟨Nat.zero_le _, Nat.zero_le _⟩
      refine lv_aload_n hx hb dX11_mean_76 rfl (lv_at hl 0 rfl) ?_
      refine x_g_this_hall hc hw fl_11_10 dX11_mean_77 ?_
      refine lv_aload hx hb dX11_mean_80 (lv_at hl 3 rfl) ?_
      refine lv_iload_n hx hb dX11_mean_82 rfl (lv_at hl 1 rfl) ?_
      refine lv_iload hx hb dX11_mean_83 (lv_at hl 6 rfl) ?_
      obtain ⟨v12, S13, hcall, hf⟩ := bd2_some hf
      refine x_cvi (As := [.ref (xr g (100 + 2 * c6.toNatClampNeg)), .int c4, .int v9]) (rest := []) hc hw hR (hml.trans hl.1.symm) (cx_H_likeOf l N S11 c6 c4 v9 v12 S13 hcall) xq_11_H_likeOf (x_recv_hall hw) (by decide) rfl rfl rfl (Nat.le_of_ble_eq_true rfl) dX11_mean_85 (fun H locs hw => ?_) ⟨Nat.zero_le _, Nat.zero_le _⟩
      refine lv_i2l hx hb dX11_mean_88 rfl ?_
      refine lv_lstore (lv' := [(10, .long v12.toInt64), (0, .ref (xr g 0)), (2, .int c4), (3, .int c5), (4, .ref (xr g (100 + 2 * c6.toNatClampNeg))), (5, .long v7), (7, .long v8), (9, .int v9)]) hx hb dX11_mean_89 hl (by decide) rfl (fun ls hl => ?_)
      refine lv_aload_n hx hb dX11_mean_91 rfl (lv_at hl 1 rfl) ?_
      refine x_g_this_fraction hc hw fl_11_68 dX11_mean_92 ?_
      refine lv_iconst (v := 1) hx hb dX11_mean_95 (by decide) ?_
      refine x_l_this_fraction hc hw (ok_in (by decide)) dX11_mean_96 ?_
      refine lv_aload_n hx hb dX11_mean_97 rfl (lv_at hl 1 rfl) ?_
      refine x_g_this_fraction hc hw fl_11_68 dX11_mean_98 ?_
      refine lv_iconst (v := 1) hx hb dX11_mean_101 (by decide) ?_
      refine x_l_this_fraction hc hw (ok_in (by decide)) dX11_mean_102 ?_
      refine lv_lload hx hb dX11_mean_103 (lv_at hl 6 rfl) ?_
      obtain ⟨v14, hcall, hf⟩ := bd1_some hf
      refine x_csl (As := [.long (S13.2.1 0 (1 : Int32).toNatClampNeg), .long v8]) (rest := [.long (S13.2.1 0 (1 : Int32).toNatClampNeg)]) hc hw hR (hml.trans hl.1.symm) (cx_X_commonDivisor l N S13 (S13.2.1 0 (1 : Int32).toNatClampNeg) v8 v14 hcall) xq_11_X_commonDivisor (by decide) rfl rfl rfl (Nat.le_of_ble_eq_true rfl) dX11_mean_105 (fun H locs hw => ?_) ⟨Nat.zero_le _, Nat.zero_le _⟩
      obtain ⟨hn15, hf⟩ := gd_some hf
      refine lv_ldiv hx hb dX11_mean_108 hn15 ?_
      refine lv_lstore (lv' := [(12, .long ((S13.2.1 0 (1 : Int32).toNatClampNeg) / v14)), (10, .long v12.toInt64), (0, .ref (xr g 0)), (2, .int c4), (3, .int c5), (4, .ref (xr g (100 + 2 * c6.toNatClampNeg))), (5, .long v7), (7, .long v8), (9, .int v9)]) hx hb dX11_mean_109 hl (by decide) rfl (fun ls hl => ?_)
      refine lv_lload hx hb dX11_mean_111 (lv_at hl 7 rfl) ?_
      refine lv_aload_n hx hb dX11_mean_113 rfl (lv_at hl 2 rfl) ?_
      refine x_g_this_fraction hc hw fl_11_68 dX11_mean_114 ?_
      refine lv_iconst (v := 1) hx hb dX11_mean_117 (by decide) ?_
      refine x_l_this_fraction hc hw (ok_in (by decide)) dX11_mean_118 ?_
      refine lv_lload hx hb dX11_mean_119 (lv_at hl 7 rfl) ?_
      obtain ⟨v16, hcall, hf⟩ := bd1_some hf
      refine x_csl (As := [.long (S13.2.1 0 (1 : Int32).toNatClampNeg), .long v8]) (rest := [.long v8]) hc hw hR (hml.trans hl.1.symm) (cx_X_commonDivisor l N S13 (S13.2.1 0 (1 : Int32).toNatClampNeg) v8 v16 hcall) xq_11_X_commonDivisor (by decide) rfl rfl rfl (Nat.le_of_ble_eq_true rfl) dX11_mean_121 (fun H locs hw => ?_) ⟨Nat.zero_le _, Nat.zero_le _⟩
      obtain ⟨hn17, hf⟩ := gd_some hf
      refine lv_ldiv hx hb dX11_mean_124 hn17 ?_
      refine lv_lstore (lv' := [(14, .long (v8 / v16)), (12, .long ((S13.2.1 0 (1 : Int32).toNatClampNeg) / v14)), (10, .long v12.toInt64), (0, .ref (xr g 0)), (2, .int c4), (3, .int c5), (4, .ref (xr g (100 + 2 * c6.toNatClampNeg))), (5, .long v7), (7, .long v8), (9, .int v9)]) hx hb dX11_mean_125 hl (by decide) rfl (fun ls hl => ?_)
      refine lv_lload hx hb dX11_mean_127 (lv_at hl 7 rfl) ?_
      refine lv_lload hx hb dX11_mean_129 (lv_at hl 1 rfl) ?_
      refine lv_lmul hx hb dX11_mean_131 ?_
      refine lv_lload hx hb dX11_mean_132 (lv_at hl 2 rfl) ?_
      refine lv_aload_n hx hb dX11_mean_134 rfl (lv_at hl 3 rfl) ?_
      refine x_g_this_fraction hc hw fl_11_68 dX11_mean_135 ?_
      refine lv_iconst (v := 0) hx hb dX11_mean_138 (by decide) ?_
      refine x_l_this_fraction hc hw (ok_in (by decide)) dX11_mean_139 ?_
      refine lv_lmul hx hb dX11_mean_140 ?_
      refine lv_lload hx hb dX11_mean_141 (lv_at hl 0 rfl) ?_
      refine lv_lmul hx hb dX11_mean_143 ?_
      refine lv_ladd hx hb dX11_mean_144 ?_
      refine lv_lstore (lv' := [(5, .long ((v7 * ((S13.2.1 0 (1 : Int32).toNatClampNeg) / v14)) + ((v12.toInt64 * (S13.2.1 0 (0 : Int32).toNatClampNeg)) * (v8 / v16)))), (14, .long (v8 / v16)), (12, .long ((S13.2.1 0 (1 : Int32).toNatClampNeg) / v14)), (10, .long v12.toInt64), (0, .ref (xr g 0)), (2, .int c4), (3, .int c5), (4, .ref (xr g (100 + 2 * c6.toNatClampNeg))), (7, .long v8), (9, .int v9)]) hx hb dX11_mean_145 hl (by decide) rfl (fun ls hl => ?_)
      refine lv_lload hx hb dX11_mean_147 (lv_at hl 8 rfl) ?_
      refine lv_lload hx hb dX11_mean_149 (lv_at hl 2 rfl) ?_
      refine lv_lmul hx hb dX11_mean_151 ?_
      refine lv_lstore (lv' := [(7, .long (v8 * ((S13.2.1 0 (1 : Int32).toNatClampNeg) / v14))), (5, .long ((v7 * ((S13.2.1 0 (1 : Int32).toNatClampNeg) / v14)) + ((v12.toInt64 * (S13.2.1 0 (0 : Int32).toNatClampNeg)) * (v8 / v16)))), (14, .long (v8 / v16)), (12, .long ((S13.2.1 0 (1 : Int32).toNatClampNeg) / v14)), (10, .long v12.toInt64), (0, .ref (xr g 0)), (2, .int c4), (3, .int c5), (4, .ref (xr g (100 + 2 * c6.toNatClampNeg))), (9, .int v9)]) hx hb dX11_mean_152 hl (by decide) rfl (fun ls hl => ?_)
      refine lv_iinc (lv' := [(9, .int (v9 + 1)), (7, .long (v8 * ((S13.2.1 0 (1 : Int32).toNatClampNeg) / v14))), (5, .long ((v7 * ((S13.2.1 0 (1 : Int32).toNatClampNeg) / v14)) + ((v12.toInt64 * (S13.2.1 0 (0 : Int32).toNatClampNeg)) * (v8 / v16)))), (14, .long (v8 / v16)), (12, .long ((S13.2.1 0 (1 : Int32).toNatClampNeg) / v14)), (10, .long v12.toInt64), (0, .ref (xr g 0)), (2, .int c4), (3, .int c5), (4, .ref (xr g (100 + 2 * c6.toNatClampNeg)))]) hx hb dX11_mean_154 hl (k := 9) rfl rfl (by decide) rfl (fun ls hl => ?_)
      refine lv_goto (tgt := 48) hx hb dX11_mean_157 (by decide) ?_
      exact ih _ _ _ _ X _ _ _ hf hw (lv_sub hl [6, 7, 8, 9, 2, 1, 0] rfl) kx
def xf_X_mean (N : Nat) (S : xS) (a1 : Int32) (a2 : Int32) (a3 : Int32) : Option (Int64 × xS) := (bd1 (xf_H_rowWith N S a1 a2) fun v1 => (if v1 < 0 then some ((-4611686018427387904), S) else (if (xf_X_isIn a3 0 1) = true then (bd1 (xf_H_allCounts N S) fun v3 => (if v3 = 0 then some ((-4611686018427387904), S) else (bd3 (xf_X_mean_L48 N a2 a3 v1 N S 0 1 0) fun v18 v19 S20 => (bd1 (xf_X_reduce N S20 v18 v19) fun S21 => (if ok a3 2 then some (S21.2.1 0 a3.toNatClampNeg, S21) else none))))) else some ((-4611686018427387904), S))))
set_option maxRecDepth 100000 in
theorem cx_X_mean (l : Launch) (N : Nat) (S : xS) (a1 : Int32) (a2 : Int32) (a3 : Int32) (res : Int64) (S1 : xS) (hf : xf_X_mean N S a1 a2 a3 = some (res, S1)) : xMl l yX11_mean cX11_mean 16 6 (fun g => [.ref (xr g 0), .int a1, .int a2, .int a3]) S res S1 := by
  refine xMl_of (own := RX11) (by decide) rfl (fun g => Nat.le_of_ble_eq_true rfl) ?_
  intro p e R s m args below meth c Q g A H0 H locs ls hc hR hml hw hl hQ
  have hl : lv_has ls 16 [(0, .ref (xr g 0)), (1, .int a1), (2, .int a2), (3, .int a3)] := hl
  have hx := hc.1
  have hb := hc.2.1
  unfold xf_X_mean at hf
  refine lv_aload_n hx hb dX11_mean_0 rfl (lv_at hl 0 rfl) ?_
  refine x_g_this_hall hc hw fl_11_10 dX11_mean_1 ?_
  refine lv_iload_n hx hb dX11_mean_4 rfl (lv_at hl 1 rfl) ?_
  refine lv_iload_n hx hb dX11_mean_5 rfl (lv_at hl 2 rfl) ?_
  obtain ⟨v1, hcall, hf⟩ := bd1_some hf
  refine x_cvr (As := [.int a1, .int a2]) (rest := []) hc hw hR (hml.trans hl.1.symm) (cx_H_rowWith l N S a1 a2 v1 hcall) xq_11_H_rowWith (x_recv_hall hw) (by decide) rfl rfl rfl (Nat.le_of_ble_eq_true rfl) dX11_mean_6 (fun H locs hw => ?_) ⟨Nat.zero_le _, Nat.zero_le _⟩
  refine x_splitr (fun cn2 => ?_) (fun cn2 => ?_)
  · have hf := (if_pos cn2).symm.trans hf
    refine lv_astoreN (lv' := [(4, .null), (0, .ref (xr g 0)), (1, .int a1), (2, .int a2), (3, .int a3)]) hx hb dX11_mean_9 hl (by decide) rfl (fun ls hl => ?_)
    refine lv_aloadN hx hb dX11_mean_11 (lv_at hl 0 rfl) ?_
    refine lv_ifnullN (tgt := 35) hx hb dX11_mean_13 (by decide) ?_
    refine lv_ldc2 (v := (-4611686018427387904)) hx hb hc.2.2.1 (hc.2.2.2 _ (mem_g 960 (by decide +kernel) rfl)) dX11_mean_35 ?_
    obtain ⟨rfl, rfl⟩ := pr2_some hf
    exact hQ _ _ _ _ dX11_mean_38 hw
  · have hf := (if_neg cn2).symm.trans hf
    refine lv_astore (lv' := [(4, .ref (xr g (100 + 2 * v1.toNatClampNeg))), (0, .ref (xr g 0)), (1, .int a1), (2, .int a2), (3, .int a3)]) hx hb dX11_mean_9 hl (by decide) rfl (fun ls hl => ?_)
    refine lv_aload hx hb dX11_mean_11 (lv_at hl 0 rfl) ?_
    refine lv_ifnull hx hb dX11_mean_13 ?_
    refine lv_iload_n hx hb dX11_mean_16 rfl (lv_at hl 4 rfl) ?_
    refine lv_iconst (v := 0) hx hb dX11_mean_17 (by decide) ?_
    refine lv_iconst (v := 1) hx hb dX11_mean_18 (by decide) ?_
    refine x_csi (As := [.int a3, .int 0, .int 1]) (rest := []) hc hw hR (hml.trans hl.1.symm) (cx_X_isIn l S a3 0 1 _ rfl) xq_11_X_isIn (by decide) rfl rfl rfl (Nat.le_of_ble_eq_true rfl) dX11_mean_19 (fun H locs hw => ?_) ⟨Nat.zero_le _, Nat.zero_le _⟩
    refine lv_if_eqb (tgt := 35) hx hb dX11_mean_22 (by decide) (fun cn23 => ?_) (fun cn23 => ?_)
    · have hf := (if_neg cn23).symm.trans hf
      refine lv_ldc2 (v := (-4611686018427387904)) hx hb hc.2.2.1 (hc.2.2.2 _ (mem_g 960 (by decide +kernel) rfl)) dX11_mean_35 ?_
      obtain ⟨rfl, rfl⟩ := pr2_some hf
      exact hQ _ _ _ _ dX11_mean_38 hw
    · have hf := (if_pos cn23).symm.trans hf
      refine lv_aload_n hx hb dX11_mean_25 rfl (lv_at hl 1 rfl) ?_
      refine x_g_this_hall hc hw fl_11_10 dX11_mean_26 ?_
      obtain ⟨v3, hcall, hf⟩ := bd1_some hf
      refine x_cvi (As := []) (rest := []) hc hw hR (hml.trans hl.1.symm) (cx_H_allCounts l N S v3 hcall) xq_11_H_allCounts (x_recv_hall hw) (by decide) rfl rfl rfl (Nat.le_of_ble_eq_true rfl) dX11_mean_29 (fun H locs hw => ?_) ⟨Nat.zero_le _, Nat.zero_le _⟩
      refine lv_if_ne (tgt := 39) hx hb dX11_mean_32 (by decide) (fun cn24 => ?_) (fun cn24 => ?_)
      · have hf := (if_neg cn24).symm.trans hf
        refine lv_lconst (v := 0) hx hb dX11_mean_39 rfl ?_
        refine lv_lstore (lv' := [(5, .long 0), (4, .ref (xr g (100 + 2 * v1.toNatClampNeg))), (0, .ref (xr g 0)), (1, .int a1), (2, .int a2), (3, .int a3)]) hx hb dX11_mean_40 hl (by decide) rfl (fun ls hl => ?_)
        refine lv_lconst (v := 1) hx hb dX11_mean_42 rfl ?_
        refine lv_lstore (lv' := [(7, .long 1), (5, .long 0), (4, .ref (xr g (100 + 2 * v1.toNatClampNeg))), (0, .ref (xr g 0)), (1, .int a1), (2, .int a2), (3, .int a3)]) hx hb dX11_mean_43 hl (by decide) rfl (fun ls hl => ?_)
        refine lv_iconst (v := 0) hx hb dX11_mean_45 (by decide) ?_
        refine lv_istore (lv' := [(9, .int 0), (7, .long 1), (5, .long 0), (4, .ref (xr g (100 + 2 * v1.toNatClampNeg))), (0, .ref (xr g 0)), (1, .int a1), (2, .int a2), (3, .int a3)]) hx hb dX11_mean_46 hl (by decide) rfl (fun ls hl => ?_)
        obtain ⟨v18, v19, S20, hL, hf⟩ := bd3_some hf
        refine wx_X_mean_L48 hc hR hml N a2 a3 v1 N _ _ _ _ _ _ _ _ hL hw (lv_sub hl [4, 6, 7, 3, 2, 1, 0] rfl) (fun H locs ls hw hl => ?_)
        refine lv_lload hx hb dX11_mean_160 (lv_at hl 2 rfl) ?_
        refine lv_lload hx hb dX11_mean_162 (lv_at hl 3 rfl) ?_
        refine lv_aload_n hx hb dX11_mean_164 rfl (lv_at hl 0 rfl) ?_
        refine x_g_this_fraction hc hw fl_11_68 dX11_mean_165 ?_
        obtain ⟨S21, hcall, hf⟩ := bd1_some hf
        refine x_csv (As := [.long v18, .long v19, .ref (xr g 5)]) (rest := []) hc hw hR (hml.trans hl.1.symm) (cx_X_reduce l N S20 v18 v19 S21 hcall) xq_11_X_reduce (by decide) rfl rfl rfl (Nat.le_of_ble_eq_true rfl) dX11_mean_168 (fun H locs hw => ?_) ⟨Nat.zero_le _, Nat.zero_le _⟩
        refine lv_aload_n hx hb dX11_mean_171 rfl (lv_at hl 0 rfl) ?_
        refine x_g_this_fraction hc hw fl_11_68 dX11_mean_172 ?_
        refine lv_iload_n hx hb dX11_mean_175 rfl (lv_at hl 1 rfl) ?_
        obtain ⟨hi22, hf⟩ := gd_some hf
        refine x_l_this_fraction hc hw (ok_in hi22) dX11_mean_176 ?_
        obtain ⟨rfl, rfl⟩ := pr2_some hf
        exact hQ _ _ _ _ dX11_mean_177 hw
      · have hf := (if_pos cn24).symm.trans hf
        refine lv_ldc2 (v := (-4611686018427387904)) hx hb hc.2.2.1 (hc.2.2.2 _ (mem_g 960 (by decide +kernel) rfl)) dX11_mean_35 ?_
        obtain ⟨rfl, rfl⟩ := pr2_some hf
        exact hQ _ _ _ _ dX11_mean_38 hw
