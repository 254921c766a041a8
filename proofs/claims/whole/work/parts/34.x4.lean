def xf_R_readWord_L0 (N : Nat) : Nat → xS → Option (xS)
  | 0, _ => none
  | n + 1, S1 => (if (S1.1 40 0) ≤ (S1.1 41 0) then some S1 else (if (S1.1 39 0) < 0 then none else (if ok (S1.1 41 0) 160 then (if (xf_R_isLetter (S1.1 3 (S1.1 41 0).toNatClampNeg)) = true then xf_R_readWord_L0 N n (xs S1 41 0 ((S1.1 41 0) + 1)) else some S1) else none)))
set_option maxRecDepth 100000 in
theorem wx_R_readWord_L0 {p : Program} {l : Launch} {e : Env} {R : Room} {s : State} {m : MethodId} {args : Array Value} {below : List Frame} {meth : Method} {c : Code} {Q : State → Prop} {g : xG} {A : Nat → Prop} {H0 : Heap} (hc : qC RX7 cX7_readWord p s m args c) (hR : qRoom R 7) (hml : c.maxLocals = 1) (N : Nat) : ∀ (n : Nat) (S1 : xS) (X : xS) (H : Heap) (locs : List Loc) (ls : Array Slot), xf_R_readWord_L0 N n S1 = some X → xI g A H0 s S1 H locs → lv_has ls 1 [(0, .ref (xr g 3))] → (∀ (H : Heap) (locs : List Loc) (ls : Array Slot), xI g A H0 s X H locs → lv_has ls 1 [(0, .ref (xr g 3))] → W p l e R s m args below meth c H locs 0 0 Q (F0 m 39 ls [])) → W p l e R s m args below meth c H locs 0 0 Q (F0 m 0 ls []) := by
  have hx := hc.1
  have hb := hc.2.1
  intro n
  induction n with
  | zero => intro _ X H locs ls hf; exact nomatch (show none = some X from hf)
  | succ n ih =>
    intro S1 X H locs ls hf hw hl kx
    rw [xf_R_readWord_L0] at hf
    refine lv_aload_n hx hb dX7_readWord_0 rfl (lv_at hl 0 rfl) ?_
    refine x_g_reader_next hc hw fl_7_22 dX7_readWord_1 ?_
    refine lv_aload_n hx hb dX7_readWord_4 rfl (lv_at hl 0 rfl) ?_
    refine x_g_reader_size hc hw fl_7_19 dX7_readWord_5 ?_
    refine lv_icmp_ge (tgt := 39) hx hb dX7_readWord_8 (by decide) (fun cn18 => ?_) (fun cn18 => ?_)
    · have hf := (if_pos cn18).symm.trans hf
      obtain rfl := Option.some.inj hf
      exact kx _ _ _ hw (lv_sub hl [0] rfl)
    · have hf := (if_neg cn18).symm.trans hf
      refine lv_aload_n hx hb dX7_readWord_11 rfl (lv_at hl 0 rfl) ?_
      refine x_g_reader_tape hc hw fl_7_15 dX7_readWord_12 ?_
      refine x_splitb (fun cn2 => ?_) (fun cn2 => ?_)
      · have hf := (if_pos cn2).symm.trans hf
        refine lv_aload_n hx hb dX7_readWord_15 rfl (lv_at hl 0 rfl) ?_
        refine x_g_reader_next hc hw fl_7_22 dX7_readWord_16 ?_
        exact nomatch hf
      · have hf := (if_neg cn2).symm.trans hf
        refine lv_aload_n hx hb dX7_readWord_15 rfl (lv_at hl 0 rfl) ?_
        refine x_g_reader_next hc hw fl_7_22 dX7_readWord_16 ?_
        obtain ⟨hi3, hf⟩ := gd_some hf
        refine x_l_this_tape hc hw (ok_in hi3) dX7_readWord_19 ?_
        refine x_csi (As := [.int (S1.1 3 (S1.1 41 0).toNatClampNeg)]) (rest := []) hc hw hR (hml.trans hl.1.symm) (cx_R_isLetter l S1 (S1.1 3 (S1.1 41 0).toNatClampNeg) _ rfl) xq_7_R_isLetter (by decide) rfl rfl rfl (Nat.le_of_ble_eq_true rfl) dX7_readWord_20 (fun H locs hw => ?_) ⟨Nat.zero_le _, Nat.zero_le _⟩
        refine lv_if_eqb (tgt := 39) hx hb dX7_readWord_23 (by decide) (fun cn19 => ?_) (fun cn19 => ?_)
        · have hf := (if_neg cn19).symm.trans hf
          obtain rfl := Option.some.inj hf
          exact kx _ _ _ hw (lv_sub hl [0] rfl)
        · have hf := (if_pos cn19).symm.trans hf
          refine lv_aload_n hx hb dX7_readWord_26 rfl (lv_at hl 0 rfl) ?_
          refine lv_dup hx hb dX7_readWord_27 rfl ?_
          refine x_g_reader_next hc hw fl_7_22 dX7_readWord_28 ?_
          refine lv_iconst (v := 1) hx hb dX7_readWord_31 (by decide) ?_
          refine lv_iadd hx hb dX7_readWord_32 ?_
          refine x_p_reader_next hc hw fl_7_22 dX7_readWord_33 (fun H locs hw => ?_)
          refine lv_goto (tgt := 0) hx hb dX7_readWord_36 (by decide) ?_
          exact ih _ X _ _ _ hf hw (lv_sub hl [0] rfl) kx
def xf_R_readWord (N : Nat) (S : xS) : Option (xS) := (bd1 (xf_R_readWord_L0 N N S) fun S4 => (bd1 (xf_R_isWord N S4 1) fun v5 => (bd1 (if v5 = true then some 0 else (bd1 (xf_R_isWord N S4 2) fun v6 => (if v6 = true then some 1 else (bd1 (xf_R_isWord N S4 3) fun v7 => (if v7 = true then some 2 else (bd1 (xf_R_isWord N S4 4) fun v8 => (if v8 = true then some 3 else (bd1 (xf_R_isWord N S4 5) fun v9 => (if v9 = true then some 4 else (bd1 (xf_R_isWord N S4 6) fun v10 => (if v10 = true then some 5 else some 6))))))))))) fun v11 => (if 6 ≤ ((xs S4 44 0 v11).1 44 0) then (bd1 (xf_R_isWord N (xs S4 44 0 v11) 7) fun v12 => (if v12 = true then some (xs (xs S4 44 0 v11) 43 0 7) else (bd1 (xf_R_isWord N (xs S4 44 0 v11) 8) fun v13 => (if v13 = true then some (xs (xs S4 44 0 v11) 43 0 8) else (bd1 (xf_R_isWord N (xs S4 44 0 v11) 9) fun v14 => (if v14 = true then some (xs (xs S4 44 0 v11) 43 0 9) else (bd1 (xf_R_isWord N (xs S4 44 0 v11) 10) fun v15 => (if v15 = true then some (xs (xs S4 44 0 v11) 43 0 3) else (bd1 (xf_R_isWord N (xs S4 44 0 v11) 11) fun v16 => (if v16 = true then some (xs (xs S4 44 0 v11) 43 0 4) else (bd1 (xf_R_isWord N (xs S4 44 0 v11) 12) fun v17 => (if v17 = true then some (xs (xs S4 44 0 v11) 43 0 5) else some (xs (xs S4 44 0 v11) 43 0 10))))))))))))) else some (xs (xs S4 44 0 v11) 43 0 2)))))
set_option maxRecDepth 100000 in
theorem cx_R_readWord (l : Launch) (N : Nat) (S : xS) (S1 : xS) (hf : xf_R_readWord N S = some S1) : xMv l yX7_readWord cX7_readWord 1 7 (fun g => [.ref (xr g 3)]) S S1 := by
  refine xMv_of (own := RX7) (by decide) rfl (fun g => Nat.le_of_ble_eq_true rfl) ?_
  intro p e R s m args below meth c Q g A H0 H locs ls hc hR hml hw hl hQ
  have hl : lv_has ls 1 [(0, .ref (xr g 3))] := hl
  have hx := hc.1
  have hb := hc.2.1
  unfold xf_R_readWord at hf
  obtain ⟨S4, hL, hf⟩ := bd1_some hf
  refine wx_R_readWord_L0 hc hR hml N N _ _ _ _ _ hL hw (lv_sub hl [0] rfl) (fun H locs ls hw hl => ?_)
  refine lv_aload_n hx hb dX7_readWord_39 rfl (lv_at hl 0 rfl) ?_
  refine lv_aload_n hx hb dX7_readWord_40 rfl (lv_at hl 0 rfl) ?_
  refine va_ldcS hx hb hc.2.2.1 (xstr_1 hw) dX7_readWord_41 ?_
  obtain ⟨v5, hcall, hf⟩ := bd1_some hf
  refine x_cvi (As := [.ref (xr g 301)]) (rest := [.ref (xr g 3)]) hc hw hR (hml.trans hl.1.symm) (cx_R_isWord l N S4 1 v5 hcall) xq_7_R_isWord (x_recv_reader hw) (by decide) rfl rfl rfl (Nat.le_of_ble_eq_true rfl) dX7_readWord_43 (fun H locs hw => ?_) ⟨Nat.zero_le _, Nat.zero_le _⟩
  obtain ⟨v11, hX28, hf⟩ := bd1_some hf
  have kJ29 : ∀ (H : Heap) (locs : List Loc) (ls : Array Slot), xI g A H0 s S4 H locs → lv_has ls 1 [(0, .ref (xr g 3))] → W p l e R s m args below meth c H locs 0 0 Q (F0 m 120 ls [.int v11, .ref (xr g 3)]) := by
    intro H locs ls hw hl
    refine x_p_reader_operand hc hw fl_7_31 dX7_readWord_120 (fun H locs hw => ?_)
    refine lv_aload_n hx hb dX7_readWord_123 rfl (lv_at hl 0 rfl) ?_
    refine lv_aload_n hx hb dX7_readWord_124 rfl (lv_at hl 0 rfl) ?_
    refine x_g_reader_operand hc hw fl_7_31 dX7_readWord_125 ?_
    refine lv_bipush (v := 6) hx hb dX7_readWord_128 (by decide) ?_
    refine lv_icmp_ge (tgt := 137) hx hb dX7_readWord_130 (by decide) (fun cn21 => ?_) (fun cn21 => ?_)
    · have hf := (if_pos cn21).symm.trans hf
      refine lv_aload_n hx hb dX7_readWord_137 rfl (lv_at hl 0 rfl) ?_
      refine va_ldcS hx hb hc.2.2.1 (xstr_7 hw) dX7_readWord_138 ?_
      obtain ⟨v12, hcall, hf⟩ := bd1_some hf
      refine x_cvi (As := [.ref (xr g 307)]) (rest := [.ref (xr g 3)]) hc hw hR (hml.trans hl.1.symm) (cx_R_isWord l N (xs S4 44 0 v11) 7 v12 hcall) xq_7_R_isWord (x_recv_reader hw) (by decide) rfl rfl rfl (Nat.le_of_ble_eq_true rfl) dX7_readWord_140 (fun H locs hw => ?_) ⟨Nat.zero_le _, Nat.zero_le _⟩
      refine lv_if_eqb (tgt := 151) hx hb dX7_readWord_143 (by decide) (fun cn22 => ?_) (fun cn22 => ?_)
      · have hf := (if_neg cn22).symm.trans hf
        refine lv_aload_n hx hb dX7_readWord_151 rfl (lv_at hl 0 rfl) ?_
        refine va_ldcS hx hb hc.2.2.1 (xstr_8 hw) dX7_readWord_152 ?_
        obtain ⟨v13, hcall, hf⟩ := bd1_some hf
        refine x_cvi (As := [.ref (xr g 308)]) (rest := [.ref (xr g 3)]) hc hw hR (hml.trans hl.1.symm) (cx_R_isWord l N (xs S4 44 0 v11) 8 v13 hcall) xq_7_R_isWord (x_recv_reader hw) (by decide) rfl rfl rfl (Nat.le_of_ble_eq_true rfl) dX7_readWord_154 (fun H locs hw => ?_) ⟨Nat.zero_le _, Nat.zero_le _⟩
        refine lv_if_eqb (tgt := 165) hx hb dX7_readWord_157 (by decide) (fun cn23 => ?_) (fun cn23 => ?_)
        · have hf := (if_neg cn23).symm.trans hf
          refine lv_aload_n hx hb dX7_readWord_165 rfl (lv_at hl 0 rfl) ?_
          refine va_ldcS hx hb hc.2.2.1 (xstr_9 hw) dX7_readWord_166 ?_
          obtain ⟨v14, hcall, hf⟩ := bd1_some hf
          refine x_cvi (As := [.ref (xr g 309)]) (rest := [.ref (xr g 3)]) hc hw hR (hml.trans hl.1.symm) (cx_R_isWord l N (xs S4 44 0 v11) 9 v14 hcall) xq_7_R_isWord (x_recv_reader hw) (by decide) rfl rfl rfl (Nat.le_of_ble_eq_true rfl) dX7_readWord_168 (fun H locs hw => ?_) ⟨Nat.zero_le _, Nat.zero_le _⟩
          refine lv_if_eqb (tgt := 179) hx hb dX7_readWord_171 (by decide) (fun cn24 => ?_) (fun cn24 => ?_)
          · have hf := (if_neg cn24).symm.trans hf
            refine lv_aload_n hx hb dX7_readWord_179 rfl (lv_at hl 0 rfl) ?_
            refine va_ldcS hx hb hc.2.2.1 (xstr_10 hw) dX7_readWord_180 ?_
            obtain ⟨v15, hcall, hf⟩ := bd1_some hf
            refine x_cvi (As := [.ref (xr g 310)]) (rest := [.ref (xr g 3)]) hc hw hR (hml.trans hl.1.symm) (cx_R_isWord l N (xs S4 44 0 v11) 10 v15 hcall) xq_7_R_isWord (x_recv_reader hw) (by decide) rfl rfl rfl (Nat.le_of_ble_eq_true rfl) dX7_readWord_182 (fun H locs hw => ?_) ⟨Nat.zero_le _, Nat.zero_le _⟩
            refine lv_if_eqb (tgt := 192) hx hb dX7_readWord_185 (by decide) (fun cn25 => ?_) (fun cn25 => ?_)
            · have hf := (if_neg cn25).symm.trans hf
              refine lv_aload_n hx hb dX7_readWord_192 rfl (lv_at hl 0 rfl) ?_
              refine va_ldcS hx hb hc.2.2.1 (xstr_11 hw) dX7_readWord_193 ?_
              obtain ⟨v16, hcall, hf⟩ := bd1_some hf
              refine x_cvi (As := [.ref (xr g 311)]) (rest := [.ref (xr g 3)]) hc hw hR (hml.trans hl.1.symm) (cx_R_isWord l N (xs S4 44 0 v11) 11 v16 hcall) xq_7_R_isWord (x_recv_reader hw) (by decide) rfl rfl rfl (Nat.le_of_ble_eq_true rfl) dX7_readWord_195 (fun H locs hw => ?_) ⟨Nat.zero_le _, Nat.zero_le _⟩
              refine lv_if_eqb (tgt := 205) hx hb dX7_readWord_198 (by decide) (fun cn26 => ?_) (fun cn26 => ?_)
              · have hf := (if_neg cn26).symm.trans hf
                refine lv_aload_n hx hb dX7_readWord_205 rfl (lv_at hl 0 rfl) ?_
                refine va_ldcS hx hb hc.2.2.1 (xstr_12 hw) dX7_readWord_206 ?_
                obtain ⟨v17, hcall, hf⟩ := bd1_some hf
                refine x_cvi (As := [.ref (xr g 312)]) (rest := [.ref (xr g 3)]) hc hw hR (hml.trans hl.1.symm) (cx_R_isWord l N (xs S4 44 0 v11) 12 v17 hcall) xq_7_R_isWord (x_recv_reader hw) (by decide) rfl rfl rfl (Nat.le_of_ble_eq_true rfl) dX7_readWord_208 (fun H locs hw => ?_) ⟨Nat.zero_le _, Nat.zero_le _⟩
                refine lv_if_eqb (tgt := 218) hx hb dX7_readWord_211 (by decide) (fun cn27 => ?_) (fun cn27 => ?_)
                · have hf := (if_neg cn27).symm.trans hf
                  refine lv_bipush (v := 10) hx hb dX7_readWord_218 (by decide) ?_
                  refine x_p_reader_token hc hw fl_7_28 dX7_readWord_220 (fun H locs hw => ?_)
                  obtain rfl := Option.some.inj hf
                  exact hQ _ _ _ _ dX7_readWord_223 hw
                · have hf := (if_pos cn27).symm.trans hf
                  refine lv_iconst (v := 5) hx hb dX7_readWord_214 (by decide) ?_
                  refine lv_goto (tgt := 220) hx hb dX7_readWord_215 (by decide) ?_
                  refine x_p_reader_token hc hw fl_7_28 dX7_readWord_220 (fun H locs hw => ?_)
                  obtain rfl := Option.some.inj hf
                  exact hQ _ _ _ _ dX7_readWord_223 hw
              · have hf := (if_pos cn26).symm.trans hf
                refine lv_iconst (v := 4) hx hb dX7_readWord_201 (by decide) ?_
                refine lv_goto (tgt := 220) hx hb dX7_readWord_202 (by decide) ?_
                refine x_p_reader_token hc hw fl_7_28 dX7_readWord_220 (fun H locs hw => ?_)
                obtain rfl := Option.some.inj hf
                exact hQ _ _ _ _ dX7_readWord_223 hw
            · have hf := (if_pos cn25).symm.trans hf
              refine lv_iconst (v := 3) hx hb dX7_readWord_188 (by decide) ?_
              refine lv_goto (tgt := 220) hx hb dX7_readWord_189 (by decide) ?_
              refine x_p_reader_token hc hw fl_7_28 dX7_readWord_220 (fun H locs hw => ?_)
              obtain rfl := Option.some.inj hf
              exact hQ _ _ _ _ dX7_readWord_223 hw
          · have hf := (if_pos cn24).symm.trans hf
            refine lv_bipush (v := 9) hx hb dX7_readWord_174 (by decide) ?_
            refine lv_goto (tgt := 220) hx hb dX7_readWord_176 (by decide) ?_
            refine x_p_reader_token hc hw fl_7_28 dX7_readWord_220 (fun H locs hw => ?_)
            obtain rfl := Option.some.inj hf
            exact hQ _ _ _ _ dX7_readWord_223 hw
        · have hf := (if_pos cn23).symm.trans hf
          refine lv_bipush (v := 8) hx hb dX7_readWord_160 (by decide) ?_
          refine lv_goto (tgt := 220) hx hb dX7_readWord_162 (by decide) ?_
          refine x_p_reader_token hc hw fl_7_28 dX7_readWord_220 (fun H locs hw => ?_)
          obtain rfl := Option.some.inj hf
          exact hQ _ _ _ _ dX7_readWord_223 hw
      · have hf := (if_pos cn22).symm.trans hf
        refine lv_bipush (v := 7) hx hb dX7_readWord_146 (by decide) ?_
        refine lv_goto (tgt := 220) hx hb dX7_readWord_148 (by decide) ?_
        refine x_p_reader_token hc hw fl_7_28 dX7_readWord_220 (fun H locs hw => ?_)
        obtain rfl := Option.some.inj hf
        exact hQ _ _ _ _ dX7_readWord_223 hw
    · have hf := (if_neg cn21).symm.trans hf
      refine lv_iconst (v := 2) hx hb dX7_readWord_133 (by decide) ?_
      refine lv_goto (tgt := 220) hx hb dX7_readWord_134 (by decide) ?_
      refine x_p_reader_token hc hw fl_7_28 dX7_readWord_220 (fun H locs hw => ?_)
      obtain rfl := Option.some.inj hf
      exact hQ _ _ _ _ dX7_readWord_223 hw
  refine lv_if_eqb (tgt := 53) hx hb dX7_readWord_46 (by decide) (fun cn30 => ?_) (fun cn30 => ?_)
  · have hX28 := (if_neg cn30).symm.trans hX28
    refine lv_aload_n hx hb dX7_readWord_53 rfl (lv_at hl 0 rfl) ?_
    refine va_ldcS hx hb hc.2.2.1 (xstr_2 hw) dX7_readWord_54 ?_
    obtain ⟨v6, hcall, hX28⟩ := bd1_some hX28
    refine x_cvi (As := [.ref (xr g 302)]) (rest := [.ref (xr g 3)]) hc hw hR (hml.trans hl.1.symm) (cx_R_isWord l N S4 2 v6 hcall) xq_7_R_isWord (x_recv_reader hw) (by decide) rfl rfl rfl (Nat.le_of_ble_eq_true rfl) dX7_readWord_56 (fun H locs hw => ?_) ⟨Nat.zero_le _, Nat.zero_le _⟩
    refine lv_if_eqb (tgt := 66) hx hb dX7_readWord_59 (by decide) (fun cn31 => ?_) (fun cn31 => ?_)
    · have hX28 := (if_neg cn31).symm.trans hX28
      refine lv_aload_n hx hb dX7_readWord_66 rfl (lv_at hl 0 rfl) ?_
      refine va_ldcS hx hb hc.2.2.1 (xstr_3 hw) dX7_readWord_67 ?_
      obtain ⟨v7, hcall, hX28⟩ := bd1_some hX28
      refine x_cvi (As := [.ref (xr g 303)]) (rest := [.ref (xr g 3)]) hc hw hR (hml.trans hl.1.symm) (cx_R_isWord l N S4 3 v7 hcall) xq_7_R_isWord (x_recv_reader hw) (by decide) rfl rfl rfl (Nat.le_of_ble_eq_true rfl) dX7_readWord_69 (fun H locs hw => ?_) ⟨Nat.zero_le _, Nat.zero_le _⟩
      refine lv_if_eqb (tgt := 79) hx hb dX7_readWord_72 (by decide) (fun cn32 => ?_) (fun cn32 => ?_)
      · have hX28 := (if_neg cn32).symm.trans hX28
        refine lv_aload_n hx hb dX7_readWord_79 rfl (lv_at hl 0 rfl) ?_
        refine va_ldcS hx hb hc.2.2.1 (xstr_4 hw) dX7_readWord_80 ?_
        obtain ⟨v8, hcall, hX28⟩ := bd1_some hX28
        refine x_cvi (As := [.ref (xr g 304)]) (rest := [.ref (xr g 3)]) hc hw hR (hml.trans hl.1.symm) (cx_R_isWord l N S4 4 v8 hcall) xq_7_R_isWord (x_recv_reader hw) (by decide) rfl rfl rfl (Nat.le_of_ble_eq_true rfl) dX7_readWord_82 (fun H locs hw => ?_) ⟨Nat.zero_le _, Nat.zero_le _⟩
        refine lv_if_eqb (tgt := 92) hx hb dX7_readWord_85 (by decide) (fun cn33 => ?_) (fun cn33 => ?_)
        · have hX28 := (if_neg cn33).symm.trans hX28
          refine lv_aload_n hx hb dX7_readWord_92 rfl (lv_at hl 0 rfl) ?_
          refine va_ldcS hx hb hc.2.2.1 (xstr_5 hw) dX7_readWord_93 ?_
          obtain ⟨v9, hcall, hX28⟩ := bd1_some hX28
          refine x_cvi (As := [.ref (xr g 305)]) (rest := [.ref (xr g 3)]) hc hw hR (hml.trans hl.1.symm) (cx_R_isWord l N S4 5 v9 hcall) xq_7_R_isWord (x_recv_reader hw) (by decide) rfl rfl rfl (Nat.le_of_ble_eq_true rfl) dX7_readWord_95 (fun H locs hw => ?_) ⟨Nat.zero_le _, Nat.zero_le _⟩
          refine lv_if_eqb (tgt := 105) hx hb dX7_readWord_98 (by decide) (fun cn34 => ?_) (fun cn34 => ?_)
          · have hX28 := (if_neg cn34).symm.trans hX28
            refine lv_aload_n hx hb dX7_readWord_105 rfl (lv_at hl 0 rfl) ?_
            refine va_ldcS hx hb hc.2.2.1 (xstr_6 hw) dX7_readWord_106 ?_
            obtain ⟨v10, hcall, hX28⟩ := bd1_some hX28
            refine x_cvi (As := [.ref (xr g 306)]) (rest := [.ref (xr g 3)]) hc hw hR (hml.trans hl.1.symm) (cx_R_isWord l N S4 6 v10 hcall) xq_7_R_isWord (x_recv_reader hw) (by decide) rfl rfl rfl (Nat.le_of_ble_eq_true rfl) dX7_readWord_108 (fun H locs hw => ?_) ⟨Nat.zero_le _, Nat.zero_le _⟩
            refine lv_if_eqb (tgt := 118) hx hb dX7_readWord_111 (by decide) (fun cn35 => ?_) (fun cn35 => ?_)
            · have hX28 := (if_neg cn35).symm.trans hX28
              refine lv_bipush (v := 6) hx hb dX7_readWord_118 (by decide) ?_
              obtain rfl := Option.some.inj hX28
              exact kJ29 _ _ _ hw (lv_sub hl [0] rfl)
            · have hX28 := (if_pos cn35).symm.trans hX28
              refine lv_iconst (v := 5) hx hb dX7_readWord_114 (by decide) ?_
              refine lv_goto (tgt := 120) hx hb dX7_readWord_115 (by decide) ?_
              obtain rfl := Option.some.inj hX28
              exact kJ29 _ _ _ hw (lv_sub hl [0] rfl)
          · have hX28 := (if_pos cn34).symm.trans hX28
            refine lv_iconst (v := 4) hx hb dX7_readWord_101 (by decide) ?_
            refine lv_goto (tgt := 120) hx hb dX7_readWord_102 (by decide) ?_
            obtain rfl := Option.some.inj hX28
            exact kJ29 _ _ _ hw (lv_sub hl [0] rfl)
        · have hX28 := (if_pos cn33).symm.trans hX28
          refine lv_iconst (v := 3) hx hb dX7_readWord_88 (by decide) ?_
          refine lv_goto (tgt := 120) hx hb dX7_readWord_89 (by decide) ?_
          obtain rfl := Option.some.inj hX28
          exact kJ29 _ _ _ hw (lv_sub hl [0] rfl)
      · have hX28 := (if_pos cn32).symm.trans hX28
        refine lv_iconst (v := 2) hx hb dX7_readWord_75 (by decide) ?_
        refine lv_goto (tgt := 120) hx hb dX7_readWord_76 (by decide) ?_
        obtain rfl := Option.some.inj hX28
        exact kJ29 _ _ _ hw (lv_sub hl [0] rfl)
    · have hX28 := (if_pos cn31).symm.trans hX28
      refine lv_iconst (v := 1) hx hb dX7_readWord_62 (by decide) ?_
      refine lv_goto (tgt := 120) hx hb dX7_readWord_63 (by decide) ?_
      obtain rfl := Option.some.inj hX28
      exact kJ29 _ _ _ hw (lv_sub hl [0] rfl)
  · have hX28 := (if_pos cn30).symm.trans hX28
    refine lv_iconst (v := 0) hx hb dX7_readWord_49 (by decide) ?_
    refine lv_goto (tgt := 120) hx hb dX7_readWord_50 (by decide) ?_
    obtain rfl := Option.some.inj hX28
    exact kJ29 _ _ _ hw (lv_sub hl [0] rfl)
def xf_X_price (N : Nat) (S : xS) (a1 : Int32) (a2 : Int32) : Option (Int32 × xS) := (bd1 (xf_H_rowWith N S a1 a2) fun v1 => (if v1 < 0 then some ((-5), S) else (bd2 (xf_H_priceOf N S v1 a2) fun v3 S4 => some (v3, S4))))
set_option maxRecDepth 100000 in
theorem cx_X_price (l : Launch) (N : Nat) (S : xS) (a1 : Int32) (a2 : Int32) (res : Int32) (S1 : xS) (hf : xf_X_price N S a1 a2 = some (res, S1)) : xMi l yX11_price cX11_price 4 .int 8 (fun g => [.ref (xr g 0), .int a1, .int a2]) S res S1 := by
  refine xMi_of (own := RX11) (by decide) rfl rfl (fun g => Nat.le_of_ble_eq_true rfl) ?_
  intro p e R s m args below meth c Q g A H0 H locs ls hc hR hml hw hl hQ
  have hl : lv_has ls 4 [(0, .ref (xr g 0)), (1, .int a1), (2, .int a2)] := hl
  have hx := hc.1
  have hb := hc.2.1
  unfold xf_X_price at hf
  refine lv_aload_n hx hb dX11_price_0 rfl (lv_at hl 0 rfl) ?_
  refine x_g_this_hall hc hw fl_11_10 dX11_price_1 ?_
  refine lv_iload_n hx hb dX11_price_4 rfl (lv_at hl 1 rfl) ?_
  refine lv_iload_n hx hb dX11_price_5 rfl (lv_at hl 2 rfl) ?_
  obtain ⟨v1, hcall, hf⟩ := bd1_some hf
  refine x_cvr (As := [.int a1, .int a2]) (rest := []) hc hw hR (hml.trans hl.1.symm) (cx_H_rowWith l N S a1 a2 v1 hcall) xq_11_H_rowWith (x_recv_hall hw) (by decide) rfl rfl rfl (Nat.le_of_ble_eq_true rfl) dX11_price_6 (fun H locs hw => ?_) ⟨Nat.zero_le _, Nat.zero_le _⟩
  refine x_splitr (fun cn2 => ?_) (fun cn2 => ?_)
  · have hf := (if_pos cn2).symm.trans hf
    refine lv_astore_nN (lv' := [(3, .null), (0, .ref (xr g 0)), (1, .int a1), (2, .int a2)]) hx hb dX11_price_9 rfl hl (by decide) rfl (fun ls hl => ?_)
    refine lv_aload_nN hx hb dX11_price_10 rfl (lv_at hl 0 rfl) ?_
    refine lv_ifnonnullN hx hb dX11_price_11 ?_
    refine lv_bipush (v := (-5)) hx hb dX11_price_14 (by decide) ?_
    refine lv_goto (tgt := 28) hx hb dX11_price_16 (by decide) ?_
    obtain ⟨rfl, rfl⟩ := pr2_some hf
    exact hQ _ _ _ _ dX11_price_28 hw
  · have hf := (if_neg cn2).symm.trans hf
    refine lv_astore_n (lv' := [(3, .ref (xr g (100 + 2 * v1.toNatClampNeg))), (0, .ref (xr g 0)), (1, .int a1), (2, .int a2)]) hx hb dX11_price_9 rfl hl (by decide) rfl (fun ls hl => ?_)
    refine lv_aload_n hx hb dX11_price_10 rfl (lv_at hl 0 rfl) ?_
    refine lv_ifnonnull (tgt := 19) hx hb dX11_price_11 (by decide) ?_
    refine lv_aload_n hx hb dX11_price_19 rfl (lv_at hl 1 rfl) ?_
    refine x_g_this_hall hc hw fl_11_10 dX11_price_20 ?_
    refine lv_aload_n hx hb dX11_price_23 rfl (lv_at hl 0 rfl) ?_
    refine lv_iload_n hx hb dX11_price_24 rfl (lv_at hl 3 rfl) ?_
    obtain ⟨v3, S4, hcall, hf⟩ := bd2_some hf
    refine x_cvi (As := [.ref (xr g (100 + 2 * v1.toNatClampNeg)), .int a2]) (rest := []) hc hw hR (hml.trans hl.1.symm) (cx_H_priceOf l N S v1 a2 v3 S4 hcall) xq_11_H_priceOf (x_recv_hall hw) (by decide) rfl rfl rfl (Nat.le_of_ble_eq_true rfl) dX11_price_25 (fun H locs hw => ?_) ⟨Nat.zero_le _, Nat.zero_le _⟩
    obtain ⟨rfl, rfl⟩ := pr2_some hf
    exact hQ _ _ _ _ dX11_price_28 hw
def xf_X_judge_L14 (N : Nat) (c2 : Int32) : Nat → xS → Int32 → Option ((Int32 × xS) ⊕ (Unit))
  | 0, _, _ => none
  | n + 1, S4, v3 => (if (S4.1 16 0) ≤ v3 then some (.inr ()) else (if ok c2 4 then (if ok v3 60 then (if (xf_X_isIn (S4.1 (70 + c2.toNatClampNeg) v3.toNatClampNeg) 0 99) = true then xf_X_judge_L14 N c2 n S4 (v3 + 1) else some (.inl ((-2), S4))) else none) else none))
set_option maxRecDepth 100000 in
theorem wx_X_judge_L14 {p : Program} {l : Launch} {e : Env} {R : Room} {s : State} {m : MethodId} {args : Array Value} {below : List Frame} {meth : Method} {c : Code} {Q : State → Prop} {g : xG} {A : Nat → Prop} {H0 : Heap} (hc : qC RX11 cX11_judge p s m args c) (hR : qRoom R 8) (hml : c.maxLocals = 4) (N : Nat) (c2 : Int32) : ∀ (n : Nat) (S4 : xS) (v3 : Int32) (X : (Int32 × xS) ⊕ (Unit)) (H : Heap) (locs : List Loc) (ls : Array Slot), xf_X_judge_L14 N c2 n S4 v3 = some X → xI g A H0 s S4 H locs → lv_has ls 4 [(0, .ref (xr g 0)), (1, .int c2), (3, .int v3)] → (∀ (_ : Unit), X = .inr () → ∀ (H : Heap) (locs : List Loc) (ls : Array Slot), xI g A H0 s S4 H locs → lv_has ls 4 [(0, .ref (xr g 0)), (1, .int c2)] → W p l e R s m args below meth c H locs 0 0 Q (F0 m 51 ls [])) → (∀ (r : Int32) (S9 : xS), X = .inl (r, S9) → xQi p l e R s m args below meth c cX11_judge Q g A H0 r S9) → W p l e R s m args below meth c H locs 0 0 Q (F0 m 14 ls []) := by
  have hx := hc.1
  have hb := hc.2.1
  intro n
  induction n with
  | zero => intro _ _ X H locs ls hf; exact nomatch (show none = some X from hf)
  | succ n ih =>
    intro S4 v3 X H locs ls hf hw hl kx kr
    rw [xf_X_judge_L14] at hf
    refine lv_iload_n hx hb dX11_judge_14 rfl (lv_at hl 2 rfl) ?_
    refine lv_aload_n hx hb dX11_judge_15 rfl (lv_at hl 0 rfl) ?_
    refine x_g_this_hall hc hw fl_11_10 dX11_judge_16 ?_
    refine x_g_hall_rowCount hc hw fl_11_113 dX11_judge_19 ?_
    refine lv_icmp_ge (tgt := 51) hx hb dX11_judge_22 (by decide) (fun cn20 => ?_) (fun cn20 => ?_)
    · have hf := (if_pos cn20).symm.trans hf
      obtain rfl := Option.some.inj hf
      exact kx () rfl _ _ _ hw (lv_sub hl [0, 1] rfl)
    · have hf := (if_neg cn20).symm.trans hf
      refine lv_aload_n hx hb dX11_judge_25 rfl (lv_at hl 0 rfl) ?_
      refine x_g_this_cells hc hw fl_11_52 dX11_judge_26 ?_
      refine lv_iload_n hx hb dX11_judge_29 rfl (lv_at hl 1 rfl) ?_
      obtain ⟨hi5, hf⟩ := gd_some hf
      refine x_l_cells hc hw (ok_in hi5) (ok_nat hi5) dX11_judge_30 ?_
      refine lv_iload_n hx hb dX11_judge_31 rfl (lv_at hl 2 rfl) ?_
      obtain ⟨hi6, hf⟩ := gd_some hf
      refine x_l_sheet hc hw (ok_nat hi5) (ok_in hi6) dX11_judge_32 ?_
      refine lv_iconst (v := 0) hx hb dX11_judge_33 (by decide) ?_
      refine lv_bipush (v := 99) hx hb dX11_judge_34 (by decide) ?_
      refine x_csi (As := [.int (S4.1 (70 + c2.toNatClampNeg) v3.toNatClampNeg), .int 0, .int 99]) (rest := []) hc hw hR (hml.trans hl.1.symm) (cx_X_isIn l S4 (S4.1 (70 + c2.toNatClampNeg) v3.toNatClampNeg) 0 99 _ rfl) xq_11_X_isIn (by decide) rfl rfl rfl (Nat.le_of_ble_eq_true rfl) dX11_judge_36 (fun H locs hw => ?_) ⟨Nat.zero_le _, Nat.zero_le _⟩
      refine lv_if_neb (tgt := 45) hx hb dX11_judge_39 (by decide) (fun cn21 => ?_) (fun cn21 => ?_)
      · have hf := (if_pos cn21).symm.trans hf
        refine lv_iinc (lv' := [(3, .int (v3 + 1)), (0, .ref (xr g 0)), (1, .int c2)]) hx hb dX11_judge_45 hl (k := 2) rfl rfl (by decide) rfl (fun ls hl => ?_)
        refine lv_goto (tgt := 14) hx hb dX11_judge_48 (by decide) ?_
        exact ih _ _ X _ _ _ hf hw (lv_sub hl [1, 2, 0] rfl) kx kr
      · have hf := (if_neg cn21).symm.trans hf
        refine lv_bipush (v := (-2)) hx hb dX11_judge_42 (by decide) ?_
        obtain rfl := Option.some.inj hf
        exact kr _ _  rfl _ _ _ _ dX11_judge_44 hw
def xf_X_judge_L57 (N : Nat) (c8 : Int32) : Nat → xS → Int32 → Option (xS)
  | 0, _, _ => none
  | n + 1, S10, v9 => (if (S10.1 16 0) ≤ v9 then some S10 else (if ok v9 6 then (if v9.toNatClampNeg < S10.2.2.1 then (if ok c8 4 then (if ok v9 60 then xf_X_judge_L57 N c8 n (xs S10 57 v9.toNatClampNeg (S10.1 (70 + c8.toNatClampNeg) v9.toNatClampNeg)) (v9 + 1) else none) else none) else none) else none))
set_option maxRecDepth 100000 in
theorem wx_X_judge_L57 {p : Program} {l : Launch} {e : Env} {R : Room} {s : State} {m : MethodId} {args : Array Value} {below : List Frame} {meth : Method} {c : Code} {Q : State → Prop} {g : xG} {A : Nat → Prop} {H0 : Heap} (hc : qC RX11 cX11_judge p s m args c) (hR : qRoom R 8) (hml : c.maxLocals = 4) (N : Nat) (c8 : Int32) : ∀ (n : Nat) (S10 : xS) (v9 : Int32) (X : xS) (H : Heap) (locs : List Loc) (ls : Array Slot), xf_X_judge_L57 N c8 n S10 v9 = some X → xI g A H0 s S10 H locs → lv_has ls 4 [(0, .ref (xr g 0)), (1, .int c8), (3, .int v9)] → (∀ (H : Heap) (locs : List Loc) (ls : Array Slot), xI g A H0 s X H locs → lv_has ls 4 [(0, .ref (xr g 0))] → W p l e R s m args below meth c H locs 0 0 Q (F0 m 94 ls [])) → W p l e R s m args below meth c H locs 0 0 Q (F0 m 57 ls []) := by
  have hx := hc.1
  have hb := hc.2.1
  intro n
  induction n with
  | zero => intro _ _ X H locs ls hf; exact nomatch (show none = some X from hf)
  | succ n ih =>
    intro S10 v9 X H locs ls hf hw hl kx
    rw [xf_X_judge_L57] at hf
    refine lv_iload_n hx hb dX11_judge_57 rfl (lv_at hl 2 rfl) ?_
    refine lv_aload_n hx hb dX11_judge_58 rfl (lv_at hl 0 rfl) ?_
    refine x_g_this_hall hc hw fl_11_10 dX11_judge_59 ?_
    refine x_g_hall_rowCount hc hw fl_11_113 dX11_judge_62 ?_
    refine lv_icmp_ge (tgt := 94) hx hb dX11_judge_65 (by decide) (fun cn22 => ?_) (fun cn22 => ?_)
    · have hf := (if_pos cn22).symm.trans hf
      obtain rfl := Option.some.inj hf
      exact kx _ _ _ hw (lv_sub hl [0] rfl)
    · have hf := (if_neg cn22).symm.trans hf
      refine lv_aload_n hx hb dX11_judge_68 rfl (lv_at hl 0 rfl) ?_
      refine x_g_this_hall hc hw fl_11_10 dX11_judge_69 ?_
      refine x_g_hall_rows hc hw fl_11_116 dX11_judge_72 ?_
      refine lv_iload_n hx hb dX11_judge_75 rfl (lv_at hl 2 rfl) ?_
      obtain ⟨hi11, hf⟩ := gd_some hf
      obtain ⟨hr12, hf⟩ := gd_some hf
      refine x_l_rows hc hw (ok_in hi11) hr12 dX11_judge_76 ?_
      refine lv_aload_n hx hb dX11_judge_77 rfl (lv_at hl 0 rfl) ?_
      refine x_g_this_cells hc hw fl_11_52 dX11_judge_78 ?_
      refine lv_iload_n hx hb dX11_judge_81 rfl (lv_at hl 1 rfl) ?_
      obtain ⟨hi13, hf⟩ := gd_some hf
      refine x_l_cells hc hw (ok_in hi13) (ok_nat hi13) dX11_judge_82 ?_
      refine lv_iload_n hx hb dX11_judge_83 rfl (lv_at hl 2 rfl) ?_
      obtain ⟨hi14, hf⟩ := gd_some hf
      refine x_l_sheet hc hw (ok_nat hi13) (ok_in hi14) dX11_judge_84 ?_
      refine x_rp_rise hc hw hr12 fl_11_150 dX11_judge_85 (fun H locs hw => ?_)
      refine lv_iinc (lv' := [(3, .int (v9 + 1)), (0, .ref (xr g 0)), (1, .int c8)]) hx hb dX11_judge_88 hl (k := 2) rfl rfl (by decide) rfl (fun ls hl => ?_)
      refine lv_goto (tgt := 57) hx hb dX11_judge_91 (by decide) ?_
      exact ih _ _ X _ _ _ hf hw (lv_sub hl [1, 2, 0] rfl) kx
def xf_X_judge (N : Nat) (S : xS) (a1 : Int32) : Option (Int32 × xS) := (bd1 (xf_X_refusalOfRises N S a1) fun v1 => (if v1 = 0 then (br0 (xf_X_judge_L14 N a1 N S 0) (Option.some) fun _ => (bd1 (xf_X_keepRises N S) fun S7 => (bd1 (xf_X_judge_L57 N a1 N S7 0) fun S15 => (bd2 (xf_H_firstThatMissesOne N S15) fun v16 S17 => (bd1 (xf_X_restoreRises N S17) fun S18 => some (v16, S18)))))) else some (v1, S)))
set_option maxRecDepth 100000 in
theorem cx_X_judge (l : Launch) (N : Nat) (S : xS) (a1 : Int32) (res : Int32) (S1 : xS) (hf : xf_X_judge N S a1 = some (res, S1)) : xMi l yX11_judge cX11_judge 4 .int 8 (fun g => [.ref (xr g 0), .int a1]) S res S1 := by
  refine xMi_of (own := RX11) (by decide) rfl rfl (fun g => Nat.le_of_ble_eq_true rfl) ?_
  intro p e R s m args below meth c Q g A H0 H locs ls hc hR hml hw hl hQ
  have hl : lv_has ls 4 [(0, .ref (xr g 0)), (1, .int a1)] := hl
  have hx := hc.1
  have hb := hc.2.1
  unfold xf_X_judge at hf
  refine lv_aload_n hx hb dX11_judge_0 rfl (lv_at hl 0 rfl) ?_
  refine lv_iload_n hx hb dX11_judge_1 rfl (lv_at hl 1 rfl) ?_
  obtain ⟨v1, hcall, hf⟩ := bd1_some hf
  refine x_cvi (As := [.int a1]) (rest := []) hc hw hR (hml.trans hl.1.symm) (cx_X_refusalOfRises l N S a1 v1 hcall) xq_11_X_refusalOfRises (x_recv_this hw) (by decide) rfl rfl rfl (Nat.le_of_ble_eq_true rfl) dX11_judge_2 (fun H locs hw => ?_) ⟨Nat.zero_le _, Nat.zero_le _⟩
  refine lv_istore_n (lv' := [(2, .int v1), (0, .ref (xr g 0)), (1, .int a1)]) hx hb dX11_judge_5 rfl hl (by decide) rfl (fun ls hl => ?_)
  refine lv_iload_n hx hb dX11_judge_6 rfl (lv_at hl 0 rfl) ?_
  refine lv_if_eq (tgt := 12) hx hb dX11_judge_7 (by decide) (fun cn19 => ?_) (fun cn19 => ?_)
  · have hf := (if_pos cn19).symm.trans hf
    refine lv_iconst (v := 0) hx hb dX11_judge_12 (by decide) ?_
    refine lv_istore_n (lv' := [(3, .int 0), (2, .int v1), (0, .ref (xr g 0)), (1, .int a1)]) hx hb dX11_judge_13 rfl hl (by decide) rfl (fun ls hl => ?_)
    rcases br0_some hf with ⟨q, hL, hf⟩ | ⟨hL, hf⟩
    · refine wx_X_judge_L14 hc hR hml N a1 N _ _ _ _ _ _ hL hw (lv_sub hl [2, 3, 0] rfl) (fun _  h => nomatch h) ?_
      obtain rfl := Option.some.inj hf
      intro z0 z1 h; cases h; exact hQ
    · refine wx_X_judge_L14 hc hR hml N a1 N _ _ _ _ _ _ hL hw (lv_sub hl [2, 3, 0] rfl) (fun y0 hi => ?_) (fun _ _  h => nomatch h)
      cases hi
      intro H locs ls hw hl
      refine lv_aload_n hx hb dX11_judge_51 rfl (lv_at hl 0 rfl) ?_
      obtain ⟨S7, hcall, hf⟩ := bd1_some hf
      refine x_cvv (As := []) (rest := []) hc hw hR (hml.trans hl.1.symm) (cx_X_keepRises l N S S7 hcall) xq_11_X_keepRises (x_recv_this hw) (by decide) rfl rfl rfl (Nat.le_of_ble_eq_true rfl) dX11_judge_52 (fun H locs hw => ?_) ⟨Nat.zero_le _, Nat.zero_le _⟩
      refine lv_iconst (v := 0) hx hb dX11_judge_55 (by decide) ?_
      refine lv_istore_n (lv' := [(3, .int 0), (0, .ref (xr g 0)), (1, .int a1)]) hx hb dX11_judge_56 rfl hl (by decide) rfl (fun ls hl => ?_)
      obtain ⟨S15, hL, hf⟩ := bd1_some hf
      refine wx_X_judge_L57 hc hR hml N a1 N _ _ _ _ _ _ hL hw (lv_sub hl [1, 2, 0] rfl) (fun H locs ls hw hl => ?_)
      refine lv_aload_n hx hb dX11_judge_94 rfl (lv_at hl 0 rfl) ?_
      refine x_g_this_hall hc hw fl_11_10 dX11_judge_95 ?_
      obtain ⟨v16, S17, hcall, hf⟩ := bd2_some hf
      refine x_cvi (As := []) (rest := []) hc hw hR (hml.trans hl.1.symm) (cx_H_firstThatMissesOne l N S15 v16 S17 hcall) xq_11_H_firstThatMissesOne (x_recv_hall hw) (by decide) rfl rfl rfl (Nat.le_of_ble_eq_true rfl) dX11_judge_98 (fun H locs hw => ?_) ⟨Nat.zero_le _, Nat.zero_le _⟩
      refine lv_istore_n (lv' := [(3, .int v16), (0, .ref (xr g 0))]) hx hb dX11_judge_101 rfl hl (by decide) rfl (fun ls hl => ?_)
      refine lv_aload_n hx hb dX11_judge_102 rfl (lv_at hl 1 rfl) ?_
      obtain ⟨S18, hcall, hf⟩ := bd1_some hf
      refine x_cvv (As := []) (rest := []) hc hw hR (hml.trans hl.1.symm) (cx_X_restoreRises l N S17 S18 hcall) xq_11_X_restoreRises (x_recv_this hw) (by decide) rfl rfl rfl (Nat.le_of_ble_eq_true rfl) dX11_judge_103 (fun H locs hw => ?_) ⟨Nat.zero_le _, Nat.zero_le _⟩
      refine lv_iload_n hx hb dX11_judge_106 rfl (lv_at hl 0 rfl) ?_
      obtain ⟨rfl, rfl⟩ := pr2_some hf
      exact hQ _ _ _ _ dX11_judge_107 hw
  · have hf := (if_neg cn19).symm.trans hf
    refine lv_iload_n hx hb dX11_judge_10 rfl (lv_at hl 0 rfl) ?_
    obtain ⟨rfl, rfl⟩ := pr2_some hf
    exact hQ _ _ _ _ dX11_judge_11 hw
def xf_X_tall (N : Nat) (S : xS) (a1 : Int32) : Option (Int32 × xS) := (if (xf_X_isSort a1) = true then (bd2 (xf_H_allWorth N (xs S 20 0 a1)) fun v1 S2 => some (v1, xs S2 20 0 (-1))) else some ((-2), S))
set_option maxRecDepth 100000 in
theorem cx_X_tall (l : Launch) (N : Nat) (S : xS) (a1 : Int32) (res : Int32) (S1 : xS) (hf : xf_X_tall N S a1 = some (res, S1)) : xMi l yX11_tall cX11_tall 3 .int 8 (fun g => [.ref (xr g 0), .int a1]) S res S1 := by
  refine xMi_of (own := RX11) (by decide) rfl rfl (fun g => Nat.le_of_ble_eq_true rfl) ?_
  intro p e R s m args below meth c Q g A H0 H locs ls hc hR hml hw hl hQ
  have hl : lv_has ls 3 [(0, .ref (xr g 0)), (1, .int a1)] := hl
  have hx := hc.1
  have hb := hc.2.1
  unfold xf_X_tall at hf
  refine lv_iload_n hx hb dX11_tall_0 rfl (lv_at hl 1 rfl) ?_
  refine x_csi (As := [.int a1]) (rest := []) hc hw hR (hml.trans hl.1.symm) (cx_X_isSort l S a1 _ rfl) xq_11_X_isSort (by decide) rfl rfl rfl (Nat.le_of_ble_eq_true rfl) dX11_tall_1 (fun H locs hw => ?_) ⟨Nat.zero_le _, Nat.zero_le _⟩
  refine lv_if_neb (tgt := 10) hx hb dX11_tall_4 (by decide) (fun cn3 => ?_) (fun cn3 => ?_)
  · have hf := (if_pos cn3).symm.trans hf
    refine lv_aload_n hx hb dX11_tall_10 rfl (lv_at hl 0 rfl) ?_
    refine x_g_this_hall hc hw fl_11_10 dX11_tall_11 ?_
    refine lv_iload_n hx hb dX11_tall_14 rfl (lv_at hl 1 rfl) ?_
    refine x_p_hall_sortOfAll hc hw fl_11_289 dX11_tall_15 (fun H locs hw => ?_)
    refine lv_aload_n hx hb dX11_tall_18 rfl (lv_at hl 0 rfl) ?_
    refine x_g_this_hall hc hw fl_11_10 dX11_tall_19 ?_
    obtain ⟨v1, S2, hcall, hf⟩ := bd2_some hf
    refine x_cvi (As := []) (rest := []) hc hw hR (hml.trans hl.1.symm) (cx_H_allWorth l N (xs S 20 0 a1) v1 S2 hcall) xq_11_H_allWorth (x_recv_hall hw) (by decide) rfl rfl rfl (Nat.le_of_ble_eq_true rfl) dX11_tall_22 (fun H locs hw => ?_) ⟨Nat.zero_le _, Nat.zero_le _⟩
    refine lv_istore_n (lv' := [(2, .int v1), (0, .ref (xr g 0)), (1, .int a1)]) hx hb dX11_tall_25 rfl hl (by decide) rfl (fun ls hl => ?_)
    refine lv_aload_n hx hb dX11_tall_26 rfl (lv_at hl 1 rfl) ?_
    refine x_g_this_hall hc hw fl_11_10 dX11_tall_27 ?_
    refine lv_iconst (v := (-1)) hx hb dX11_tall_30 (by decide) ?_
    refine x_p_hall_sortOfAll hc hw fl_11_289 dX11_tall_31 (fun H locs hw => ?_)
    refine lv_iload_n hx hb dX11_tall_34 rfl (lv_at hl 0 rfl) ?_
    obtain ⟨rfl, rfl⟩ := pr2_some hf
    exact hQ _ _ _ _ dX11_tall_35 hw
  · have hf := (if_neg cn3).symm.trans hf
    refine lv_bipush (v := (-2)) hx hb dX11_tall_7 (by decide) ?_
    obtain ⟨rfl, rfl⟩ := pr2_some hf
    exact hQ _ _ _ _ dX11_tall_9 hw
def xf_X_shifts_L28 (N : Nat) (c2 : Int32) (c3 : Int32) : Nat → xS → Int32 → Int32 → Int32 → Option (Int32 × Int32 × xS)
  | 0, _, _, _, _ => none
  | n + 1, S7, v4, v5, v6 => (if ((1 : Int32) <<< ((S7.1 16 0) &&& 31)) ≤ v6 then some (v4, v5, S7) else (bd1 (xf_H_shiftAll N S7 v6) fun S8 => (bd2 (xf_H_allWorth N S8) fun v9 S10 => (if v9 ≤ v5 then xf_X_shifts_L28 N c2 c3 n S10 v4 v5 (v6 + 1) else xf_X_shifts_L28 N c2 c3 n S10 v6 v9 (v6 + 1)))))
set_option maxRecDepth 100000 in
theorem wx_X_shifts_L28 {p : Program} {l : Launch} {e : Env} {R : Room} {s : State} {m : MethodId} {args : Array Value} {below : List Frame} {meth : Method} {c : Code} {Q : State → Prop} {g : xG} {A : Nat → Prop} {H0 : Heap} (hc : qC RX11 cX11_shifts p s m args c) (hR : qRoom R 8) (hml : c.maxLocals = 7) (N : Nat) (c2 : Int32) (c3 : Int32) : ∀ (n : Nat) (S7 : xS) (v4 : Int32) (v5 : Int32) (v6 : Int32) (X : Int32 × Int32 × xS) (H : Heap) (locs : List Loc) (ls : Array Slot), xf_X_shifts_L28 N c2 c3 n S7 v4 v5 v6 = some X → xI g A H0 s S7 H locs → lv_has ls 7 [(0, .ref (xr g 0)), (1, .int c2), (2, .int c3), (3, .int v4), (4, .int v5), (5, .int v6)] → (∀ (H : Heap) (locs : List Loc) (ls : Array Slot), xI g A H0 s X.2.2 H locs → lv_has ls 7 [(0, .ref (xr g 0)), (1, .int c2), (2, .int c3), (3, .int X.1), (4, .int X.2.1)] → W p l e R s m args below meth c H locs 0 0 Q (F0 m 80 ls [])) → W p l e R s m args below meth c H locs 0 0 Q (F0 m 28 ls []) := by
  have hx := hc.1
  have hb := hc.2.1
  intro n
  induction n with
  | zero => intro _ _ _ _ X H locs ls hf; exact nomatch (show none = some X from hf)
  | succ n ih =>
    intro S7 v4 v5 v6 X H locs ls hf hw hl kx
    rw [xf_X_shifts_L28] at hf
    refine lv_iload hx hb dX11_shifts_28 (lv_at hl 5 rfl) ?_
    refine lv_iconst (v := 1) hx hb dX11_shifts_30 (by decide) ?_
    refine lv_aload_n hx hb dX11_shifts_31 rfl (lv_at hl 0 rfl) ?_
    refine x_g_this_hall hc hw fl_11_10 dX11_shifts_32 ?_
    refine x_g_hall_rowCount hc hw fl_11_113 dX11_shifts_35 ?_
    refine lv_ishl hx hb dX11_shifts_38 ?_
    refine lv_icmp_ge (tgt := 80) hx hb dX11_shifts_39 (by decide) (fun cn16 => ?_) (fun cn16 => ?_)
    · have hf := (if_pos cn16).symm.trans hf
      obtain rfl := Option.some.inj hf
      exact kx _ _ _ hw (lv_sub hl [0, 1, 2, 3, 4] rfl)
    · have hf := (if_neg cn16).symm.trans hf
      refine lv_aload_n hx hb dX11_shifts_42 rfl (lv_at hl 0 rfl) ?_
      refine x_g_this_hall hc hw fl_11_10 dX11_shifts_43 ?_
      refine lv_iload hx hb dX11_shifts_46 (lv_at hl 5 rfl) ?_
      obtain ⟨S8, hcall, hf⟩ := bd1_some hf
      refine x_cvv (As := [.int v6]) (rest := []) hc hw hR (hml.trans hl.1.symm) (cx_H_shiftAll l N S7 v6 S8 hcall) xq_11_H_shiftAll (x_recv_hall hw) (by decide) rfl rfl rfl (Nat.le_of_ble_eq_true rfl) dX11_shifts_48 (fun H locs hw => ?_) ⟨Nat.zero_le _, Nat.zero_le _⟩
      refine lv_aload_n hx hb dX11_shifts_51 rfl (lv_at hl 0 rfl) ?_
      refine x_g_this_hall hc hw fl_11_10 dX11_shifts_52 ?_
      obtain ⟨v9, S10, hcall, hf⟩ := bd2_some hf
      refine x_cvi (As := []) (rest := []) hc hw hR (hml.trans hl.1.symm) (cx_H_allWorth l N S8 v9 S10 hcall) xq_11_H_allWorth (x_recv_hall hw) (by decide) rfl rfl rfl (Nat.le_of_ble_eq_true rfl) dX11_shifts_55 (fun H locs hw => ?_) ⟨Nat.zero_le _, Nat.zero_le _⟩
      refine lv_istore (lv' := [(6, .int v9), (0, .ref (xr g 0)), (1, .int c2), (2, .int c3), (3, .int v4), (4, .int v5), (5, .int v6)]) hx hb dX11_shifts_58 hl (by decide) rfl (fun ls hl => ?_)
      refine lv_iload hx hb dX11_shifts_60 (lv_at hl 0 rfl) ?_
      refine lv_iload hx hb dX11_shifts_62 (lv_at hl 5 rfl) ?_
      refine lv_icmp_le (tgt := 74) hx hb dX11_shifts_64 (by decide) (fun cn17 => ?_) (fun cn17 => ?_)
      · have hf := (if_pos cn17).symm.trans hf
        refine lv_iinc (lv' := [(5, .int (v6 + 1)), (6, .int v9), (0, .ref (xr g 0)), (1, .int c2), (2, .int c3), (3, .int v4), (4, .int v5)]) hx hb dX11_shifts_74 hl (k := 6) rfl rfl (by decide) rfl (fun ls hl => ?_)
        refine lv_goto (tgt := 28) hx hb dX11_shifts_77 (by decide) ?_
        exact ih _ _ _ _ X _ _ _ hf hw (lv_sub hl [2, 3, 4, 5, 6, 0] rfl) kx
      · have hf := (if_neg cn17).symm.trans hf
        refine lv_iload hx hb dX11_shifts_67 (lv_at hl 0 rfl) ?_
        refine lv_istore (lv' := [(4, .int v9), (6, .int v9), (0, .ref (xr g 0)), (1, .int c2), (2, .int c3), (3, .int v4), (5, .int v6)]) hx hb dX11_shifts_69 hl (by decide) rfl (fun ls hl => ?_)
        refine lv_iload hx hb dX11_shifts_71 (lv_at hl 6 rfl) ?_
        refine lv_istore_n (lv' := [(3, .int v6), (4, .int v9), (6, .int v9), (0, .ref (xr g 0)), (1, .int c2), (2, .int c3), (5, .int v6)]) hx hb dX11_shifts_73 rfl hl (by decide) rfl (fun ls hl => ?_)
        refine lv_iinc (lv' := [(5, .int (v6 + 1)), (3, .int v6), (4, .int v9), (6, .int v9), (0, .ref (xr g 0)), (1, .int c2), (2, .int c3)]) hx hb dX11_shifts_74 hl (k := 6) rfl rfl (by decide) rfl (fun ls hl => ?_)
        refine lv_goto (tgt := 28) hx hb dX11_shifts_77 (by decide) ?_
        exact ih _ _ _ _ X _ _ _ hf hw (lv_sub hl [4, 5, 6, 1, 2, 0] rfl) kx
def xf_X_shifts (N : Nat) (S : xS) (a1 : Int32) : Option (Int32 × xS) := (if (xf_X_isIn a1 0 1) = true then (bd1 (xf_H_allShifts N S) fun v1 => (bd3 (xf_X_shifts_L28 N a1 v1 N S 0 (-1) 0) fun v11 v12 S13 => (bd1 (xf_H_shiftAll N S13 v1) fun S14 => (if a1 = 0 then some (v11, S14) else some (v12, S14))))) else some ((-2), S))
set_option maxRecDepth 100000 in
theorem cx_X_shifts (l : Launch) (N : Nat) (S : xS) (a1 : Int32) (res : Int32) (S1 : xS) (hf : xf_X_shifts N S a1 = some (res, S1)) : xMi l yX11_shifts cX11_shifts 7 .int 8 (fun g => [.ref (xr g 0), .int a1]) S res S1 := by
  refine xMi_of (own := RX11) (by decide) rfl rfl (fun g => Nat.le_of_ble_eq_true rfl) ?_
  intro p e R s m args below meth c Q g A H0 H locs ls hc hR hml hw hl hQ
  have hl : lv_has ls 7 [(0, .ref (xr g 0)), (1, .int a1)] := hl
  have hx := hc.1
  have hb := hc.2.1
  unfold xf_X_shifts at hf
  refine lv_iload_n hx hb dX11_shifts_0 rfl (lv_at hl 1 rfl) ?_
  refine lv_iconst (v := 0) hx hb dX11_shifts_1 (by decide) ?_
  refine lv_iconst (v := 1) hx hb dX11_shifts_2 (by decide) ?_
  refine x_csi (As := [.int a1, .int 0, .int 1]) (rest := []) hc hw hR (hml.trans hl.1.symm) (cx_X_isIn l S a1 0 1 _ rfl) xq_11_X_isIn (by decide) rfl rfl rfl (Nat.le_of_ble_eq_true rfl) dX11_shifts_3 (fun H locs hw => ?_) ⟨Nat.zero_le _, Nat.zero_le _⟩
  refine lv_if_neb (tgt := 12) hx hb dX11_shifts_6 (by decide) (fun cn15 => ?_) (fun cn15 => ?_)
  · have hf := (if_pos cn15).symm.trans hf
    refine lv_aload_n hx hb dX11_shifts_12 rfl (lv_at hl 0 rfl) ?_
    refine x_g_this_hall hc hw fl_11_10 dX11_shifts_13 ?_
    obtain ⟨v1, hcall, hf⟩ := bd1_some hf
    refine x_cvi (As := []) (rest := []) hc hw hR (hml.trans hl.1.symm) (cx_H_allShifts l N S v1 hcall) xq_11_H_allShifts (x_recv_hall hw) (by decide) rfl rfl rfl (Nat.le_of_ble_eq_true rfl) dX11_shifts_16 (fun H locs hw => ?_) ⟨Nat.zero_le _, Nat.zero_le _⟩
    refine lv_istore_n (lv' := [(2, .int v1), (0, .ref (xr g 0)), (1, .int a1)]) hx hb dX11_shifts_19 rfl hl (by decide) rfl (fun ls hl => ?_)
    refine lv_iconst (v := 0) hx hb dX11_shifts_20 (by decide) ?_
    refine lv_istore_n (lv' := [(3, .int 0), (2, .int v1), (0, .ref (xr g 0)), (1, .int a1)]) hx hb dX11_shifts_21 rfl hl (by decide) rfl (fun ls hl => ?_)
    refine lv_iconst (v := (-1)) hx hb dX11_shifts_22 (by decide) ?_
    refine lv_istore (lv' := [(4, .int (-1)), (3, .int 0), (2, .int v1), (0, .ref (xr g 0)), (1, .int a1)]) hx hb dX11_shifts_23 hl (by decide) rfl (fun ls hl => ?_)
    refine lv_iconst (v := 0) hx hb dX11_shifts_25 (by decide) ?_
    refine lv_istore (lv' := [(5, .int 0), (4, .int (-1)), (3, .int 0), (2, .int v1), (0, .ref (xr g 0)), (1, .int a1)]) hx hb dX11_shifts_26 hl (by decide) rfl (fun ls hl => ?_)
    obtain ⟨v11, v12, S13, hL, hf⟩ := bd3_some hf
    refine wx_X_shifts_L28 hc hR hml N a1 v1 N _ _ _ _ _ _ _ _ hL hw (lv_sub hl [4, 5, 3, 2, 1, 0] rfl) (fun H locs ls hw hl => ?_)
    refine lv_aload_n hx hb dX11_shifts_80 rfl (lv_at hl 0 rfl) ?_
    refine x_g_this_hall hc hw fl_11_10 dX11_shifts_81 ?_
    refine lv_iload_n hx hb dX11_shifts_84 rfl (lv_at hl 2 rfl) ?_
    obtain ⟨S14, hcall, hf⟩ := bd1_some hf
    refine x_cvv (As := [.int v1]) (rest := []) hc hw hR (hml.trans hl.1.symm) (cx_H_shiftAll l N S13 v1 S14 hcall) xq_11_H_shiftAll (x_recv_hall hw) (by decide) rfl rfl rfl (Nat.le_of_ble_eq_true rfl) dX11_shifts_85 (fun H locs hw => ?_) ⟨Nat.zero_le _, Nat.zero_le _⟩
    refine lv_iload_n hx hb dX11_shifts_88 rfl (lv_at hl 1 rfl) ?_
    refine lv_if_ne (tgt := 96) hx hb dX11_shifts_89 (by decide) (fun cn21 => ?_) (fun cn21 => ?_)
    · have hf := (if_neg cn21).symm.trans hf
      refine lv_iload hx hb dX11_shifts_96 (lv_at hl 4 rfl) ?_
      obtain ⟨rfl, rfl⟩ := pr2_some hf
      exact hQ _ _ _ _ dX11_shifts_98 hw
    · have hf := (if_pos cn21).symm.trans hf
      refine lv_iload_n hx hb dX11_shifts_92 rfl (lv_at hl 3 rfl) ?_
      refine lv_goto (tgt := 98) hx hb dX11_shifts_93 (by decide) ?_
      obtain ⟨rfl, rfl⟩ := pr2_some hf
      exact hQ _ _ _ _ dX11_shifts_98 hw
  · have hf := (if_neg cn15).symm.trans hf
    refine lv_bipush (v := (-2)) hx hb dX11_shifts_9 (by decide) ?_
    obtain ⟨rfl, rfl⟩ := pr2_some hf
    exact hQ _ _ _ _ dX11_shifts_11 hw
def xf_X_coin_L41 (N : Nat) (c1 : Int32) (c2 : Int32) (c3 : Int32) : Nat → xS → Int32 → Int32 → Option (Int32)
  | 0, _, _, _ => none
  | n + 1, S6, v4, v5 => (if c3 ≤ v5 then some v4 else xf_X_coin_L41 N c1 c2 c3 n S6 (v4 * 3) (v5 + 1))
set_option maxRecDepth 100000 in
theorem wx_X_coin_L41 {p : Program} {l : Launch} {e : Env} {R : Room} {s : State} {m : MethodId} {args : Array Value} {below : List Frame} {meth : Method} {c : Code} {Q : State → Prop} {g : xG} {A : Nat → Prop} {H0 : Heap} (hc : qC RX11 cX11_coin p s m args c) (hR : qRoom R 8) (hml : c.maxLocals = 10) (N : Nat) (c1 : Int32) (c2 : Int32) (c3 : Int32) : ∀ (n : Nat) (S6 : xS) (v4 : Int32) (v5 : Int32) (X : Int32) (H : Heap) (locs : List Loc) (ls : Array Slot), xf_X_coin_L41 N c1 c2 c3 n S6 v4 v5 = some X → xI g A H0 s S6 H locs → lv_has ls 10 [(0, .ref (xr g 0)), (1, .int c1), (2, .int c2), (3, .int c3), (4, .int v4), (5, .int v5)] → (∀ (H : Heap) (locs : List Loc) (ls : Array Slot), xI g A H0 s S6 H locs → lv_has ls 10 [(0, .ref (xr g 0)), (1, .int c1), (2, .int c2), (3, .int c3), (4, .int X)] → W p l e R s m args below meth c H locs 0 0 Q (F0 m 59 ls [])) → W p l e R s m args below meth c H locs 0 0 Q (F0 m 41 ls []) := by
  have hx := hc.1
  have hb := hc.2.1
  intro n
  induction n with
  | zero => intro _ _ _ X H locs ls hf; exact nomatch (show none = some X from hf)
  | succ n ih =>
    intro S6 v4 v5 X H locs ls hf hw hl kx
    rw [xf_X_coin_L41] at hf
    refine lv_iload hx hb dX11_coin_41 (lv_at hl 5 rfl) ?_
    refine lv_iload_n hx hb dX11_coin_43 rfl (lv_at hl 3 rfl) ?_
    refine lv_icmp_ge (tgt := 59) hx hb dX11_coin_44 (by decide) (fun cn31 => ?_) (fun cn31 => ?_)
    · have hf := (if_pos cn31).symm.trans hf
      obtain rfl := Option.some.inj hf
      exact kx _ _ _ hw (lv_sub hl [0, 1, 2, 3, 4] rfl)
    · have hf := (if_neg cn31).symm.trans hf
      refine lv_iload hx hb dX11_coin_47 (lv_at hl 4 rfl) ?_
      refine lv_iconst (v := 3) hx hb dX11_coin_49 (by decide) ?_
      refine lv_imul hx hb dX11_coin_50 ?_
      refine lv_istore (lv' := [(4, .int (v4 * 3)), (0, .ref (xr g 0)), (1, .int c1), (2, .int c2), (3, .int c3), (5, .int v5)]) hx hb dX11_coin_51 hl (by decide) rfl (fun ls hl => ?_)
      refine lv_iinc (lv' := [(5, .int (v5 + 1)), (4, .int (v4 * 3)), (0, .ref (xr g 0)), (1, .int c1), (2, .int c2), (3, .int c3)]) hx hb dX11_coin_53 hl (k := 5) rfl rfl (by decide) rfl (fun ls hl => ?_)
      refine lv_goto (tgt := 41) hx hb dX11_coin_56 (by decide) ?_
      exact ih _ _ _ X _ _ _ hf hw (lv_sub hl [2, 3, 4, 5, 1, 0] rfl) kx
def xf_X_coin_L72 (N : Nat) (c9 : Int32) (c10 : Int32) (c11 : Int32) (c12 : Int32) : Nat → xS → Int32 → Int32 → Int32 → Option (Int32 × Int32 × xS)
  | 0, _, _, _, _ => none
  | n + 1, S16, v13, v14, v15 => (if c12 ≤ v15 then some (v13, v14, S16) else (bd2 (xf_X_buildFloors N S16 c11 v15) fun v17 S18 => (bd2 (xf_H_costOfRows N S18) fun v19 S20 => (bd2 (if c9 < v19 then some ((-1), S20) else (bd2 (xf_H_allWorth N S20) fun v21 S22 => some (v21, S22))) fun v23 S24 => (if v23 ≤ v14 then xf_X_coin_L72 N c9 c10 c11 c12 n S24 v13 v14 (v15 + 1) else xf_X_coin_L72 N c9 c10 c11 c12 n S24 v17 v23 (v15 + 1))))))
set_option maxRecDepth 100000 in
theorem wx_X_coin_L72 {p : Program} {l : Launch} {e : Env} {R : Room} {s : State} {m : MethodId} {args : Array Value} {below : List Frame} {meth : Method} {c : Code} {Q : State → Prop} {g : xG} {A : Nat → Prop} {H0 : Heap} (hc : qC RX11 cX11_coin p s m args c) (hR : qRoom R 8) (hml : c.maxLocals = 10) (N : Nat) (c9 : Int32) (c10 : Int32) (c11 : Int32) (c12 : Int32) : ∀ (n : Nat) (S16 : xS) (v13 : Int32) (v14 : Int32) (v15 : Int32) (X : Int32 × Int32 × xS) (H : Heap) (locs : List Loc) (ls : Array Slot), xf_X_coin_L72 N c9 c10 c11 c12 n S16 v13 v14 v15 = some X → xI g A H0 s S16 H locs → lv_has ls 10 [(0, .ref (xr g 0)), (1, .int c9), (2, .int c10), (3, .int c11), (4, .int c12), (5, .int v13), (6, .int v14), (7, .int v15)] → (∀ (H : Heap) (locs : List Loc) (ls : Array Slot), xI g A H0 s X.2.2 H locs → lv_has ls 10 [(0, .ref (xr g 0)), (2, .int c10), (5, .int X.1), (6, .int X.2.1)] → W p l e R s m args below meth c H locs 0 0 Q (F0 m 133 ls [])) → W p l e R s m args below meth c H locs 0 0 Q (F0 m 72 ls []) := by
  have hx := hc.1
  have hb := hc.2.1
  intro n
  induction n with
  | zero => intro _ _ _ _ X H locs ls hf; exact nomatch (show none = some X from hf)
  | succ n ih =>
    intro S16 v13 v14 v15 X H locs ls hf hw hl kx
    rw [xf_X_coin_L72] at hf
    refine lv_iload hx hb dX11_coin_72 (lv_at hl 7 rfl) ?_
    refine lv_iload hx hb dX11_coin_74 (lv_at hl 4 rfl) ?_
    refine lv_icmp_ge (tgt := 133) hx hb dX11_coin_76 (by decide) (fun cn33 => ?_) (fun cn33 => ?_)
    · have hf := (if_pos cn33).symm.trans hf
      obtain rfl := Option.some.inj hf
      exact kx _ _ _ hw (lv_sub hl [0, 2, 5, 6] rfl)
    · have hf := (if_neg cn33).symm.trans hf
      refine lv_aload_n hx hb dX11_coin_79 rfl (lv_at hl 0 rfl) ?_
      refine lv_iload_n hx hb dX11_coin_80 rfl (lv_at hl 3 rfl) ?_
      refine lv_iload hx hb dX11_coin_81 (lv_at hl 7 rfl) ?_
      obtain ⟨v17, S18, hcall, hf⟩ := bd2_some hf
      refine x_cvi (As := [.int c11, .int v15]) (rest := []) hc hw hR (hml.trans hl.1.symm) (cx_X_buildFloors l N S16 c11 v15 v17 S18 hcall) xq_11_X_buildFloors (x_recv_this hw) (by decide) rfl rfl rfl (Nat.le_of_ble_eq_true rfl) dX11_coin_83 (fun H locs hw => ?_) ⟨Nat.zero_le _, Nat.zero_le _⟩
      refine lv_istore (lv' := [(8, .int v17), (0, .ref (xr g 0)), (1, .int c9), (2, .int c10), (3, .int c11), (4, .int c12), (5, .int v13), (6, .int v14), (7, .int v15)]) hx hb dX11_coin_86 hl (by decide) rfl (fun ls hl => ?_)
      refine lv_aload_n hx hb dX11_coin_88 rfl (lv_at hl 1 rfl) ?_
      refine x_g_this_hall hc hw fl_11_10 dX11_coin_89 ?_
      obtain ⟨v19, S20, hcall, hf⟩ := bd2_some hf
      refine x_cvi (As := []) (rest := []) hc hw hR (hml.trans hl.1.symm) (cx_H_costOfRows l N S18 v19 S20 hcall) xq_11_H_costOfRows (x_recv_hall hw) (by decide) rfl rfl rfl (Nat.le_of_ble_eq_true rfl) dX11_coin_92 (fun H locs hw => ?_) ⟨Nat.zero_le _, Nat.zero_le _⟩
      refine lv_iload_n hx hb dX11_coin_95 rfl (lv_at hl 2 rfl) ?_
      obtain ⟨v23, S24, hX35, hf⟩ := bd2_some hf
      have kJ36 : ∀ (H : Heap) (locs : List Loc) (ls : Array Slot), xI g A H0 s S24 H locs → lv_has ls 10 [(0, .ref (xr g 0)), (1, .int c9), (2, .int c10), (3, .int c11), (4, .int c12), (5, .int v13), (6, .int v14), (7, .int v15), (8, .int v17)] → W p l e R s m args below meth c H locs 0 0 Q (F0 m 110 ls [.int v23]) := by
        intro H locs ls hw hl
        refine lv_istore (lv' := [(9, .int v23), (0, .ref (xr g 0)), (1, .int c9), (2, .int c10), (3, .int c11), (4, .int c12), (5, .int v13), (6, .int v14), (7, .int v15), (8, .int v17)]) hx hb dX11_coin_110 hl (by decide) rfl (fun ls hl => ?_)
        refine lv_iload hx hb dX11_coin_112 (lv_at hl 0 rfl) ?_
        refine lv_iload hx hb dX11_coin_114 (lv_at hl 7 rfl) ?_
        refine lv_icmp_le (tgt := 127) hx hb dX11_coin_116 (by decide) (fun cn34 => ?_) (fun cn34 => ?_)
        · have hf := (if_pos cn34).symm.trans hf
          refine lv_iinc (lv' := [(7, .int (v15 + 1)), (9, .int v23), (0, .ref (xr g 0)), (1, .int c9), (2, .int c10), (3, .int c11), (4, .int c12), (5, .int v13), (6, .int v14), (8, .int v17)]) hx hb dX11_coin_127 hl (k := 8) rfl rfl (by decide) rfl (fun ls hl => ?_)
          refine lv_goto (tgt := 72) hx hb dX11_coin_130 (by decide) ?_
          exact ih _ _ _ _ X _ _ _ hf hw (lv_sub hl [2, 3, 4, 5, 6, 7, 8, 0] rfl) kx
        · have hf := (if_neg cn34).symm.trans hf
          refine lv_iload hx hb dX11_coin_119 (lv_at hl 0 rfl) ?_
          refine lv_istore (lv' := [(6, .int v23), (9, .int v23), (0, .ref (xr g 0)), (1, .int c9), (2, .int c10), (3, .int c11), (4, .int c12), (5, .int v13), (7, .int v15), (8, .int v17)]) hx hb dX11_coin_121 hl (by decide) rfl (fun ls hl => ?_)
          refine lv_iload hx hb dX11_coin_123 (lv_at hl 9 rfl) ?_
          refine lv_istore (lv' := [(5, .int v17), (6, .int v23), (9, .int v23), (0, .ref (xr g 0)), (1, .int c9), (2, .int c10), (3, .int c11), (4, .int c12), (7, .int v15), (8, .int v17)]) hx hb dX11_coin_125 hl (by decide) rfl (fun ls hl => ?_)
          refine lv_iinc (lv' := [(7, .int (v15 + 1)), (5, .int v17), (6, .int v23), (9, .int v23), (0, .ref (xr g 0)), (1, .int c9), (2, .int c10), (3, .int c11), (4, .int c12), (8, .int v17)]) hx hb dX11_coin_127 hl (k := 8) rfl rfl (by decide) rfl (fun ls hl => ?_)
          refine lv_goto (tgt := 72) hx hb dX11_coin_130 (by decide) ?_
          exact ih _ _ _ _ X _ _ _ hf hw (lv_sub hl [4, 5, 6, 7, 8, 1, 2, 0] rfl) kx
      refine lv_icmp_gt (tgt := 109) hx hb dX11_coin_96 (by decide) (fun cn37 => ?_) (fun cn37 => ?_)
      · have hX35 := (if_pos cn37).symm.trans hX35
        refine lv_iconst (v := (-1)) hx hb dX11_coin_109 (by decide) ?_
        obtain ⟨rfl, rfl⟩ := pr2_some hX35
        exact kJ36 _ _ _ hw (lv_sub hl [1, 2, 3, 4, 5, 6, 7, 8, 0] rfl)
      · have hX35 := (if_neg cn37).symm.trans hX35
        refine lv_aload_n hx hb dX11_coin_99 rfl (lv_at hl 1 rfl) ?_
        refine x_g_this_hall hc hw fl_11_10 dX11_coin_100 ?_
        obtain ⟨v21, S22, hcall, hX35⟩ := bd2_some hX35
        refine x_cvi (As := []) (rest := []) hc hw hR (hml.trans hl.1.symm) (cx_H_allWorth l N S20 v21 S22 hcall) xq_11_H_allWorth (x_recv_hall hw) (by decide) rfl rfl rfl (Nat.le_of_ble_eq_true rfl) dX11_coin_103 (fun H locs hw => ?_) ⟨Nat.zero_le _, Nat.zero_le _⟩
        refine lv_goto (tgt := 110) hx hb dX11_coin_106 (by decide) ?_
        obtain ⟨rfl, rfl⟩ := pr2_some hX35
        exact kJ36 _ _ _ hw (lv_sub hl [1, 2, 3, 4, 5, 6, 7, 8, 0] rfl)
def xf_X_coin (N : Nat) (S : xS) (a1 : Int32) (a2 : Int32) : Option (Int32 × xS) := (if (xf_X_isIn a1 0 99999) = true then (if (xf_X_isIn a2 0 1) = true then (bd1 (xf_X_coin_L41 N a1 a2 (if ((S.1 16 0) : Int32) < 4 then ((S.1 16 0) : Int32) else 4) N S 1 0) fun v7 => (bd1 (xf_X_keepRises N S) fun S8 => (bd3 (xf_X_coin_L72 N a1 a2 (if ((S.1 16 0) : Int32) < 4 then ((S.1 16 0) : Int32) else 4) v7 N S8 (-1) (-1) 0) fun v25 v26 S27 => (bd1 (xf_X_restoreRises N S27) fun S28 => (if a2 = 0 then some (v25, S28) else some (v26, S28)))))) else some ((-2), S)) else some ((-2), S))
set_option maxRecDepth 100000 in
theorem cx_X_coin (l : Launch) (N : Nat) (S : xS) (a1 : Int32) (a2 : Int32) (res : Int32) (S1 : xS) (hf : xf_X_coin N S a1 a2 = some (res, S1)) : xMi l yX11_coin cX11_coin 10 .int 8 (fun g => [.ref (xr g 0), .int a1, .int a2]) S res S1 := by
  refine xMi_of (own := RX11) (by decide) rfl rfl (fun g => Nat.le_of_ble_eq_true rfl) ?_
  intro p e R s m args below meth c Q g A H0 H locs ls hc hR hml hw hl hQ
  have hl : lv_has ls 10 [(0, .ref (xr g 0)), (1, .int a1), (2, .int a2)] := hl
  have hx := hc.1
  have hb := hc.2.1
  unfold xf_X_coin at hf
  refine lv_iload_n hx hb dX11_coin_0 rfl (lv_at hl 1 rfl) ?_
  refine lv_iconst (v := 0) hx hb dX11_coin_1 (by decide) ?_
  refine lv_ldcw (v := 99999) hx hb hc.2.2.1 (hc.2.2.2 _ (mem_g 1017 (by decide +kernel) rfl)) dX11_coin_2 ?_
  refine x_csi (As := [.int a1, .int 0, .int 99999]) (rest := []) hc hw hR (hml.trans hl.1.symm) (cx_X_isIn l S a1 0 99999 _ rfl) xq_11_X_isIn (by decide) rfl rfl rfl (Nat.le_of_ble_eq_true rfl) dX11_coin_5 (fun H locs hw => ?_) ⟨Nat.zero_le _, Nat.zero_le _⟩
  refine lv_if_eqb (tgt := 20) hx hb dX11_coin_8 (by decide) (fun cn29 => ?_) (fun cn29 => ?_)
  · have hf := (if_neg cn29).symm.trans hf
    refine lv_bipush (v := (-2)) hx hb dX11_coin_20 (by decide) ?_
    obtain ⟨rfl, rfl⟩ := pr2_some hf
    exact hQ _ _ _ _ dX11_coin_22 hw
  · have hf := (if_pos cn29).symm.trans hf
    refine lv_iload_n hx hb dX11_coin_11 rfl (lv_at hl 2 rfl) ?_
    refine lv_iconst (v := 0) hx hb dX11_coin_12 (by decide) ?_
    refine lv_iconst (v := 1) hx hb dX11_coin_13 (by decide) ?_
    refine x_csi (As := [.int a2, .int 0, .int 1]) (rest := []) hc hw hR (hml.trans hl.1.symm) (cx_X_isIn l S a2 0 1 _ rfl) xq_11_X_isIn (by decide) rfl rfl rfl (Nat.le_of_ble_eq_true rfl) dX11_coin_14 (fun H locs hw => ?_) ⟨Nat.zero_le _, Nat.zero_le _⟩
    refine lv_if_neb (tgt := 23) hx hb dX11_coin_17 (by decide) (fun cn30 => ?_) (fun cn30 => ?_)
    · have hf := (if_pos cn30).symm.trans hf
      refine lv_iconst (v := 4) hx hb dX11_coin_23 (by decide) ?_
      refine lv_aload_n hx hb dX11_coin_24 rfl (lv_at hl 0 rfl) ?_
      refine x_g_this_hall hc hw fl_11_10 dX11_coin_25 ?_
      refine x_g_hall_rowCount hc hw fl_11_113 dX11_coin_28 ?_
      refine x_mmin hc hR (by decide) (hml.trans hl.1.symm) xq_11_x_mmin (Nat.le_of_ble_eq_true rfl) dX11_coin_31 ?_ ⟨Nat.zero_le _, Nat.zero_le _⟩
      refine lv_istore_n (lv' := [(3, .int (if ((S.1 16 0) : Int32) < 4 then ((S.1 16 0) : Int32) else 4)), (0, .ref (xr g 0)), (1, .int a1), (2, .int a2)]) hx hb dX11_coin_34 rfl hl (by decide) rfl (fun ls hl => ?_)
      refine lv_iconst (v := 1) hx hb dX11_coin_35 (by decide) ?_
      refine lv_istore (lv' := [(4, .int 1), (3, .int (if ((S.1 16 0) : Int32) < 4 then ((S.1 16 0) : Int32) else 4)), (0, .ref (xr g 0)), (1, .int a1), (2, .int a2)]) hx hb dX11_coin_36 hl (by decide) rfl (fun ls hl => ?_)
      refine lv_iconst (v := 0) hx hb dX11_coin_38 (by decide) ?_
      refine lv_istore (lv' := [(5, .int 0), (4, .int 1), (3, .int (if ((S.1 16 0) : Int32) < 4 then ((S.1 16 0) : Int32) else 4)), (0, .ref (xr g 0)), (1, .int a1), (2, .int a2)]) hx hb dX11_coin_39 hl (by decide) rfl (fun ls hl => ?_)
      obtain ⟨v7, hL, hf⟩ := bd1_some hf
      refine wx_X_coin_L41 hc hR hml N a1 a2 (if ((S.1 16 0) : Int32) < 4 then ((S.1 16 0) : Int32) else 4) N _ _ _ _ _ _ _ hL hw (lv_sub hl [3, 4, 5, 2, 1, 0] rfl) (fun H locs ls hw hl => ?_)
      refine lv_iconst (v := (-1)) hx hb dX11_coin_59 (by decide) ?_
      refine lv_istore (lv' := [(5, .int (-1)), (0, .ref (xr g 0)), (1, .int a1), (2, .int a2), (3, .int (if ((S.1 16 0) : Int32) < 4 then ((S.1 16 0) : Int32) else 4)), (4, .int v7)]) hx hb dX11_coin_60 hl (by decide) rfl (fun ls hl => ?_)
      refine lv_iconst (v := (-1)) hx hb dX11_coin_62 (by decide) ?_
      refine lv_istore (lv' := [(6, .int (-1)), (5, .int (-1)), (0, .ref (xr g 0)), (1, .int a1), (2, .int a2), (3, .int (if ((S.1 16 0) : Int32) < 4 then ((S.1 16 0) : Int32) else 4)), (4, .int v7)]) hx hb dX11_coin_63 hl (by decide) rfl (fun ls hl => ?_)
      refine lv_aload_n hx hb dX11_coin_65 rfl (lv_at hl 2 rfl) ?_
      obtain ⟨S8, hcall, hf⟩ := bd1_some hf
      refine x_cvv (As := []) (rest := []) hc hw hR (hml.trans hl.1.symm) (cx_X_keepRises l N S S8 hcall) xq_11_X_keepRises (x_recv_this hw) (by decide) rfl rfl rfl (Nat.le_of_ble_eq_true rfl) dX11_coin_66 (fun H locs hw => ?_) ⟨Nat.zero_le _, Nat.zero_le _⟩
      refine lv_iconst (v := 0) hx hb dX11_coin_69 (by decide) ?_
      refine lv_istore (lv' := [(7, .int 0), (6, .int (-1)), (5, .int (-1)), (0, .ref (xr g 0)), (1, .int a1), (2, .int a2), (3, .int (if ((S.1 16 0) : Int32) < 4 then ((S.1 16 0) : Int32) else 4)), (4, .int v7)]) hx hb dX11_coin_70 hl (by decide) rfl (fun ls hl => ?_)
      obtain ⟨v25, v26, S27, hL, hf⟩ := bd3_some hf
      refine wx_X_coin_L72 hc hR hml N a1 a2 (if ((S.1 16 0) : Int32) < 4 then ((S.1 16 0) : Int32) else 4) v7 N _ _ _ _ _ _ _ _ hL hw (lv_sub hl [3, 4, 5, 6, 7, 2, 1, 0] rfl) (fun H locs ls hw hl => ?_)
      refine lv_aload_n hx hb dX11_coin_133 rfl (lv_at hl 0 rfl) ?_
      obtain ⟨S28, hcall, hf⟩ := bd1_some hf
      refine x_cvv (As := []) (rest := []) hc hw hR (hml.trans hl.1.symm) (cx_X_restoreRises l N S27 S28 hcall) xq_11_X_restoreRises (x_recv_this hw) (by decide) rfl rfl rfl (Nat.le_of_ble_eq_true rfl) dX11_coin_134 (fun H locs hw => ?_) ⟨Nat.zero_le _, Nat.zero_le _⟩
      refine lv_iload_n hx hb dX11_coin_137 rfl (lv_at hl 1 rfl) ?_
      refine lv_if_ne (tgt := 146) hx hb dX11_coin_138 (by decide) (fun cn41 => ?_) (fun cn41 => ?_)
      · have hf := (if_neg cn41).symm.trans hf
        refine lv_iload hx hb dX11_coin_146 (lv_at hl 3 rfl) ?_
        obtain ⟨rfl, rfl⟩ := pr2_some hf
        exact hQ _ _ _ _ dX11_coin_148 hw
      · have hf := (if_pos cn41).symm.trans hf
        refine lv_iload hx hb dX11_coin_141 (lv_at hl 2 rfl) ?_
        refine lv_goto (tgt := 148) hx hb dX11_coin_143 (by decide) ?_
        obtain ⟨rfl, rfl⟩ := pr2_some hf
        exact hQ _ _ _ _ dX11_coin_148 hw
    · have hf := (if_neg cn30).symm.trans hf
      refine lv_bipush (v := (-2)) hx hb dX11_coin_20 (by decide) ?_
      obtain ⟨rfl, rfl⟩ := pr2_some hf
      exact hQ _ _ _ _ dX11_coin_22 hw
def xf_X_stage_L6 (N : Nat) : Nat → xS → Int32 → Int32 → Int32 → Option (Int32 × xS)
  | 0, _, _, _, _ => none
  | n + 1, S4, v1, v2, v3 => (if 10 < v3 then some (v1, S4) else (bd2 (xf_H_allWorth N (xs S4 21 0 v3)) fun v5 S6 => (if v5 ≤ v2 then xf_X_stage_L6 N n S6 v1 v2 (v3 + 1) else xf_X_stage_L6 N n S6 v3 v5 (v3 + 1))))
set_option maxRecDepth 100000 in
theorem wx_X_stage_L6 {p : Program} {l : Launch} {e : Env} {R : Room} {s : State} {m : MethodId} {args : Array Value} {below : List Frame} {meth : Method} {c : Code} {Q : State → Prop} {g : xG} {A : Nat → Prop} {H0 : Heap} (hc : qC RX11 cX11_stage p s m args c) (hR : qRoom R 8) (hml : c.maxLocals = 5) (N : Nat) : ∀ (n : Nat) (S4 : xS) (v1 : Int32) (v2 : Int32) (v3 : Int32) (X : Int32 × xS) (H : Heap) (locs : List Loc) (ls : Array Slot), xf_X_stage_L6 N n S4 v1 v2 v3 = some X → xI g A H0 s S4 H locs → lv_has ls 5 [(0, .ref (xr g 0)), (1, .int v1), (2, .int v2), (3, .int v3)] → (∀ (H : Heap) (locs : List Loc) (ls : Array Slot), xI g A H0 s X.2 H locs → lv_has ls 5 [(0, .ref (xr g 0)), (1, .int X.1)] → W p l e R s m args below meth c H locs 0 0 Q (F0 m 46 ls [])) → W p l e R s m args below meth c H locs 0 0 Q (F0 m 6 ls []) := by
  have hx := hc.1
  have hb := hc.2.1
  intro n
  induction n with
  | zero => intro _ _ _ _ X H locs ls hf; exact nomatch (show none = some X from hf)
  | succ n ih =>
    intro S4 v1 v2 v3 X H locs ls hf hw hl kx
    rw [xf_X_stage_L6] at hf
    refine lv_iload_n hx hb dX11_stage_6 rfl (lv_at hl 3 rfl) ?_
    refine lv_bipush (v := 10) hx hb dX11_stage_7 (by decide) ?_
    refine lv_icmp_gt (tgt := 46) hx hb dX11_stage_9 (by decide) (fun cn9 => ?_) (fun cn9 => ?_)
    · have hf := (if_pos cn9).symm.trans hf
      obtain rfl := Option.some.inj hf
      exact kx _ _ _ hw (lv_sub hl [0, 1] rfl)
    · have hf := (if_neg cn9).symm.trans hf
      refine lv_aload_n hx hb dX11_stage_12 rfl (lv_at hl 0 rfl) ?_
      refine x_g_this_hall hc hw fl_11_10 dX11_stage_13 ?_
      refine lv_iload_n hx hb dX11_stage_16 rfl (lv_at hl 3 rfl) ?_
      refine x_p_hall_stageLift hc hw fl_11_313 dX11_stage_17 (fun H locs hw => ?_)
      refine lv_aload_n hx hb dX11_stage_20 rfl (lv_at hl 0 rfl) ?_
      refine x_g_this_hall hc hw fl_11_10 dX11_stage_21 ?_
      obtain ⟨v5, S6, hcall, hf⟩ := bd2_some hf
      refine x_cvi (As := []) (rest := []) hc hw hR (hml.trans hl.1.symm) (cx_H_allWorth l N (xs S4 21 0 v3) v5 S6 hcall) xq_11_H_allWorth (x_recv_hall hw) (by decide) rfl rfl rfl (Nat.le_of_ble_eq_true rfl) dX11_stage_24 (fun H locs hw => ?_) ⟨Nat.zero_le _, Nat.zero_le _⟩
      refine lv_istore (lv' := [(4, .int v5), (0, .ref (xr g 0)), (1, .int v1), (2, .int v2), (3, .int v3)]) hx hb dX11_stage_27 hl (by decide) rfl (fun ls hl => ?_)
      refine lv_iload hx hb dX11_stage_29 (lv_at hl 0 rfl) ?_
      refine lv_iload_n hx hb dX11_stage_31 rfl (lv_at hl 3 rfl) ?_
      refine lv_icmp_le (tgt := 40) hx hb dX11_stage_32 (by decide) (fun cn10 => ?_) (fun cn10 => ?_)
      · have hf := (if_pos cn10).symm.trans hf
        refine lv_iinc (lv' := [(3, .int (v3 + 1)), (4, .int v5), (0, .ref (xr g 0)), (1, .int v1), (2, .int v2)]) hx hb dX11_stage_40 hl (k := 4) rfl rfl (by decide) rfl (fun ls hl => ?_)
        refine lv_goto (tgt := 6) hx hb dX11_stage_43 (by decide) ?_
        exact ih _ _ _ _ X _ _ _ hf hw (lv_sub hl [2, 3, 4, 0] rfl) kx
      · have hf := (if_neg cn10).symm.trans hf
        refine lv_iload hx hb dX11_stage_35 (lv_at hl 0 rfl) ?_
        refine lv_istore_n (lv' := [(2, .int v5), (4, .int v5), (0, .ref (xr g 0)), (1, .int v1), (3, .int v3)]) hx hb dX11_stage_37 rfl hl (by decide) rfl (fun ls hl => ?_)
        refine lv_iload_n hx hb dX11_stage_38 rfl (lv_at hl 4 rfl) ?_
        refine lv_istore_n (lv' := [(1, .int v3), (2, .int v5), (4, .int v5), (0, .ref (xr g 0)), (3, .int v3)]) hx hb dX11_stage_39 rfl hl (by decide) rfl (fun ls hl => ?_)
        refine lv_iinc (lv' := [(3, .int (v3 + 1)), (1, .int v3), (2, .int v5), (4, .int v5), (0, .ref (xr g 0))]) hx hb dX11_stage_40 hl (k := 4) rfl rfl (by decide) rfl (fun ls hl => ?_)
        refine lv_goto (tgt := 6) hx hb dX11_stage_43 (by decide) ?_
        exact ih _ _ _ _ X _ _ _ hf hw (lv_sub hl [4, 1, 2, 0] rfl) kx
def xf_X_stage (N : Nat) (S : xS) : Option (Int32 × xS) := (bd2 (xf_X_stage_L6 N N S 0 (-1) 0) fun v7 S8 => some (v7, xs S8 21 0 0))
set_option maxRecDepth 100000 in
theorem cx_X_stage (l : Launch) (N : Nat) (S : xS) (res : Int32) (S1 : xS) (hf : xf_X_stage N S = some (res, S1)) : xMi l yX11_stage cX11_stage 5 .int 8 (fun g => [.ref (xr g 0)]) S res S1 := by
  refine xMi_of (own := RX11) (by decide) rfl rfl (fun g => Nat.le_of_ble_eq_true rfl) ?_
  intro p e R s m args below meth c Q g A H0 H locs ls hc hR hml hw hl hQ
  have hl : lv_has ls 5 [(0, .ref (xr g 0))] := hl
  have hx := hc.1
  have hb := hc.2.1
  unfold xf_X_stage at hf
  refine lv_iconst (v := 0) hx hb dX11_stage_0 (by decide) ?_
  refine lv_istore_n (lv' := [(1, .int 0), (0, .ref (xr g 0))]) hx hb dX11_stage_1 rfl hl (by decide) rfl (fun ls hl => ?_)
  refine lv_iconst (v := (-1)) hx hb dX11_stage_2 (by decide) ?_
  refine lv_istore_n (lv' := [(2, .int (-1)), (1, .int 0), (0, .ref (xr g 0))]) hx hb dX11_stage_3 rfl hl (by decide) rfl (fun ls hl => ?_)
  refine lv_iconst (v := 0) hx hb dX11_stage_4 (by decide) ?_
  refine lv_istore_n (lv' := [(3, .int 0), (2, .int (-1)), (1, .int 0), (0, .ref (xr g 0))]) hx hb dX11_stage_5 rfl hl (by decide) rfl (fun ls hl => ?_)
  obtain ⟨v7, S8, hL, hf⟩ := bd2_some hf
  refine wx_X_stage_L6 hc hR hml N N _ _ _ _ _ _ _ _ hL hw (lv_sub hl [3, 2, 1, 0] rfl) (fun H locs ls hw hl => ?_)
  refine lv_aload_n hx hb dX11_stage_46 rfl (lv_at hl 0 rfl) ?_
  refine x_g_this_hall hc hw fl_11_10 dX11_stage_47 ?_
  refine lv_iconst (v := 0) hx hb dX11_stage_50 (by decide) ?_
  refine x_p_hall_stageLift hc hw fl_11_313 dX11_stage_51 (fun H locs hw => ?_)
  refine lv_iload_n hx hb dX11_stage_54 rfl (lv_at hl 1 rfl) ?_
  obtain ⟨rfl, rfl⟩ := pr2_some hf
  exact hQ _ _ _ _ dX11_stage_55 hw
def xf_X_worthSwapped (N : Nat) (S : xS) (a1 : Int32) (a2 : Int32) (a3 : Int32) (a4 : Int32) : Option (Int32 × xS) := (bd1 (xf_X_changePlaces N S a1 a2 a3 a4) fun S1 => (bd2 (xf_H_allWorth N S1) fun v2 S3 => (bd1 (xf_X_changePlaces N S3 a1 a2 a3 a4) fun S4 => some (v2, S4))))
set_option maxRecDepth 100000 in
theorem cx_X_worthSwapped (l : Launch) (N : Nat) (S : xS) (a1 : Int32) (a2 : Int32) (a3 : Int32) (a4 : Int32) (res : Int32) (S1 : xS) (hf : xf_X_worthSwapped N S a1 a2 a3 a4 = some (res, S1)) : xMi l yX11_worthSwapped cX11_worthSwapped 6 .int 8 (fun g => [.ref (xr g 0), .ref (xr g (100 + 2 * a1.toNatClampNeg)), .int a2, .ref (xr g (100 + 2 * a3.toNatClampNeg)), .int a4]) S res S1 := by
  refine xMi_of (own := RX11) (by decide) rfl rfl (fun g => Nat.le_of_ble_eq_true rfl) ?_
  intro p e R s m args below meth c Q g A H0 H locs ls hc hR hml hw hl hQ
  have hl : lv_has ls 6 [(0, .ref (xr g 0)), (1, .ref (xr g (100 + 2 * a1.toNatClampNeg))), (2, .int a2), (3, .ref (xr g (100 + 2 * a3.toNatClampNeg))), (4, .int a4)] := hl
  have hx := hc.1
  have hb := hc.2.1
  unfold xf_X_worthSwapped at hf
  refine lv_aload_n hx hb dX11_worthSwapped_0 rfl (lv_at hl 1 rfl) ?_
  refine lv_iload_n hx hb dX11_worthSwapped_1 rfl (lv_at hl 2 rfl) ?_
  refine lv_aload_n hx hb dX11_worthSwapped_2 rfl (lv_at hl 3 rfl) ?_
  refine lv_iload hx hb dX11_worthSwapped_3 (lv_at hl 4 rfl) ?_
  obtain ⟨S1, hcall, hf⟩ := bd1_some hf
  refine x_csv (As := [.ref (xr g (100 + 2 * a1.toNatClampNeg)), .int a2, .ref (xr g (100 + 2 * a3.toNatClampNeg)), .int a4]) (rest := []) hc hw hR (hml.trans hl.1.symm) (cx_X_changePlaces l N S a1 a2 a3 a4 S1 hcall) xq_11_X_changePlaces (by decide) rfl rfl rfl (Nat.le_of_ble_eq_true rfl) dX11_worthSwapped_5 (fun H locs hw => ?_) ⟨Nat.zero_le _, Nat.zero_le _⟩
  refine lv_aload_n hx hb dX11_worthSwapped_8 rfl (lv_at hl 0 rfl) ?_
  refine x_g_this_hall hc hw fl_11_10 dX11_worthSwapped_9 ?_
  obtain ⟨v2, S3, hcall, hf⟩ := bd2_some hf
  refine x_cvi (As := []) (rest := []) hc hw hR (hml.trans hl.1.symm) (cx_H_allWorth l N S1 v2 S3 hcall) xq_11_H_allWorth (x_recv_hall hw) (by decide) rfl rfl rfl (Nat.le_of_ble_eq_true rfl) dX11_worthSwapped_12 (fun H locs hw => ?_) ⟨Nat.zero_le _, Nat.zero_le _⟩
  refine lv_istore (lv' := [(5, .int v2), (0, .ref (xr g 0)), (1, .ref (xr g (100 + 2 * a1.toNatClampNeg))), (2, .int a2), (3, .ref (xr g (100 + 2 * a3.toNatClampNeg))), (4, .int a4)]) hx hb dX11_worthSwapped_15 hl (by decide) rfl (fun ls hl => ?_)
  refine lv_aload_n hx hb dX11_worthSwapped_17 rfl (lv_at hl 2 rfl) ?_
  refine lv_iload_n hx hb dX11_worthSwapped_18 rfl (lv_at hl 3 rfl) ?_
  refine lv_aload_n hx hb dX11_worthSwapped_19 rfl (lv_at hl 4 rfl) ?_
  refine lv_iload hx hb dX11_worthSwapped_20 (lv_at hl 5 rfl) ?_
  obtain ⟨S4, hcall, hf⟩ := bd1_some hf
  refine x_csv (As := [.ref (xr g (100 + 2 * a1.toNatClampNeg)), .int a2, .ref (xr g (100 + 2 * a3.toNatClampNeg)), .int a4]) (rest := []) hc hw hR (hml.trans hl.1.symm) (cx_X_changePlaces l N S3 a1 a2 a3 a4 S4 hcall) xq_11_X_changePlaces (by decide) rfl rfl rfl (Nat.le_of_ble_eq_true rfl) dX11_worthSwapped_22 (fun H locs hw => ?_) ⟨Nat.zero_le _, Nat.zero_le _⟩
  refine lv_iload hx hb dX11_worthSwapped_25 (lv_at hl 0 rfl) ?_
  obtain ⟨rfl, rfl⟩ := pr2_some hf
  exact hQ _ _ _ _ dX11_worthSwapped_27 hw
def xf_X_bestSwap_L23 (N : Nat) (c7 : Int32) (c10 : Int32) : Nat → xS → Int32 → Int32 → Int32 → Option (Int32 × Int32 × xS)
  | 0, _, _, _, _ => none
  | n + 1, S12, v8, v9, v11 => (if c7.toNatClampNeg < S12.2.2.1 then (if (S12.1 56 c7.toNatClampNeg) ≤ v11 then some (v8, v9, S12) else (if ok c10 8 then (if ok v11 8 then (if (S12.1 (80 + 4 * c7.toNatClampNeg) c10.toNatClampNeg) = (S12.1 (80 + 4 * c7.toNatClampNeg) v11.toNatClampNeg) then xf_X_bestSwap_L23 N c7 c10 n S12 v8 v9 (v11 + 1) else (bd1 (xf_X_changePlaces N S12 c7 c10 c7 v11) fun S16 => (bd2 (xf_H_allWorth N S16) fun v17 S18 => (bd1 (xf_X_changePlaces N S18 c7 c10 c7 v11) fun S19 => (if v17 ≤ v9 then xf_X_bestSwap_L23 N c7 c10 n S19 v8 v9 (v11 + 1) else xf_X_bestSwap_L23 N c7 c10 n S19 ((10 * c10) + v11) v17 (v11 + 1)))))) else none) else none)) else none)
set_option maxRecDepth 100000 in
theorem wx_X_bestSwap_L23 {p : Program} {l : Launch} {e : Env} {R : Room} {s : State} {m : MethodId} {args : Array Value} {below : List Frame} {meth : Method} {c : Code} {Q : State → Prop} {g : xG} {A : Nat → Prop} {H0 : Heap} (hc : qC RX11 cX11_bestSwap p s m args c) (hR : qRoom R 8) (hml : c.maxLocals = 8) (N : Nat) (c7 : Int32) (c10 : Int32) : ∀ (n : Nat) (S12 : xS) (v8 : Int32) (v9 : Int32) (v11 : Int32) (X : Int32 × Int32 × xS) (H : Heap) (locs : List Loc) (ls : Array Slot), xf_X_bestSwap_L23 N c7 c10 n S12 v8 v9 v11 = some X → xI g A H0 s S12 H locs → lv_has ls 8 [(0, .ref (xr g 0)), (1, .ref (xr g (100 + 2 * c7.toNatClampNeg))), (3, .int v8), (4, .int v9), (5, .int c10), (6, .int v11)] → (∀ (H : Heap) (locs : List Loc) (ls : Array Slot), xI g A H0 s X.2.2 H locs → lv_has ls 8 [(0, .ref (xr g 0)), (1, .ref (xr g (100 + 2 * c7.toNatClampNeg))), (3, .int X.1), (4, .int X.2.1), (5, .int c10)] → W p l e R s m args below meth c H locs 0 0 Q (F0 m 105 ls [])) → W p l e R s m args below meth c H locs 0 0 Q (F0 m 23 ls []) := by
  have hx := hc.1
  have hb := hc.2.1
  intro n
  induction n with
  | zero => intro _ _ _ _ X H locs ls hf; exact nomatch (show none = some X from hf)
  | succ n ih =>
    intro S12 v8 v9 v11 X H locs ls hf hw hl kx
    rw [xf_X_bestSwap_L23] at hf
    refine lv_iload hx hb dX11_bestSwap_23 (lv_at hl 5 rfl) ?_
    refine lv_aload_n hx hb dX11_bestSwap_25 rfl (lv_at hl 1 rfl) ?_
    obtain ⟨hr13, hf⟩ := gd_some hf
    refine x_rg_seats hc hw hr13 fl_11_328 dX11_bestSwap_26 ?_
    refine lv_icmp_ge (tgt := 105) hx hb dX11_bestSwap_29 (by decide) (fun cn26 => ?_) (fun cn26 => ?_)
    · have hf := (if_pos cn26).symm.trans hf
      obtain rfl := Option.some.inj hf
      exact kx _ _ _ hw (lv_sub hl [0, 1, 2, 3, 4] rfl)
    · have hf := (if_neg cn26).symm.trans hf
      refine lv_aload_n hx hb dX11_bestSwap_32 rfl (lv_at hl 1 rfl) ?_
      refine x_rg_sorts hc hw hr13 fl_11_160 dX11_bestSwap_33 ?_
      refine lv_iload hx hb dX11_bestSwap_36 (lv_at hl 4 rfl) ?_
      obtain ⟨hi14, hf⟩ := gd_some hf
      refine x_l_sorts hc hw hr13 (ok_in hi14) dX11_bestSwap_38 ?_
      refine lv_aload_n hx hb dX11_bestSwap_39 rfl (lv_at hl 1 rfl) ?_
      refine x_rg_sorts hc hw hr13 fl_11_160 dX11_bestSwap_40 ?_
      refine lv_iload hx hb dX11_bestSwap_43 (lv_at hl 5 rfl) ?_
      obtain ⟨hi15, hf⟩ := gd_some hf
      refine x_l_sorts hc hw hr13 (ok_in hi15) dX11_bestSwap_45 ?_
      refine lv_icmp_ne (tgt := 52) hx hb dX11_bestSwap_46 (by decide) (fun cn27 => ?_) (fun cn27 => ?_)
      · have hf := (if_neg cn27).symm.trans hf
        refine lv_aload_n hx hb dX11_bestSwap_52 rfl (lv_at hl 1 rfl) ?_
        refine lv_iload hx hb dX11_bestSwap_53 (lv_at hl 4 rfl) ?_
        refine lv_aload_n hx hb dX11_bestSwap_55 rfl (lv_at hl 1 rfl) ?_
        refine lv_iload hx hb dX11_bestSwap_56 (lv_at hl 5 rfl) ?_
        obtain ⟨S16, hcall, hf⟩ := bd1_some hf
        refine x_csv (As := [.ref (xr g (100 + 2 * c7.toNatClampNeg)), .int c10, .ref (xr g (100 + 2 * c7.toNatClampNeg)), .int v11]) (rest := []) hc hw hR (hml.trans hl.1.symm) (cx_X_changePlaces l N S12 c7 c10 c7 v11 S16 hcall) xq_11_X_changePlaces (by decide) rfl rfl rfl (Nat.le_of_ble_eq_true rfl) dX11_bestSwap_58 (fun H locs hw => ?_) ⟨Nat.zero_le _, Nat.zero_le _⟩
        refine lv_aload_n hx hb dX11_bestSwap_61 rfl (lv_at hl 0 rfl) ?_
        refine x_g_this_hall hc hw fl_11_10 dX11_bestSwap_62 ?_
        obtain ⟨v17, S18, hcall, hf⟩ := bd2_some hf
        refine x_cvi (As := []) (rest := []) hc hw hR (hml.trans hl.1.symm) (cx_H_allWorth l N S16 v17 S18 hcall) xq_11_H_allWorth (x_recv_hall hw) (by decide) rfl rfl rfl (Nat.le_of_ble_eq_true rfl) dX11_bestSwap_65 (fun H locs hw => ?_) ⟨Nat.zero_le _, Nat.zero_le _⟩
        refine lv_istore (lv' := [(7, .int v17), (0, .ref (xr g 0)), (1, .ref (xr g (100 + 2 * c7.toNatClampNeg))), (3, .int v8), (4, .int v9), (5, .int c10), (6, .int v11)]) hx hb dX11_bestSwap_68 hl (by decide) rfl (fun ls hl => ?_)
        refine lv_aload_n hx hb dX11_bestSwap_70 rfl (lv_at hl 2 rfl) ?_
        refine lv_iload hx hb dX11_bestSwap_71 (lv_at hl 5 rfl) ?_
        refine lv_aload_n hx hb dX11_bestSwap_73 rfl (lv_at hl 2 rfl) ?_
        refine lv_iload hx hb dX11_bestSwap_74 (lv_at hl 6 rfl) ?_
        obtain ⟨S19, hcall, hf⟩ := bd1_some hf
        refine x_csv (As := [.ref (xr g (100 + 2 * c7.toNatClampNeg)), .int c10, .ref (xr g (100 + 2 * c7.toNatClampNeg)), .int v11]) (rest := []) hc hw hR (hml.trans hl.1.symm) (cx_X_changePlaces l N S18 c7 c10 c7 v11 S19 hcall) xq_11_X_changePlaces (by decide) rfl rfl rfl (Nat.le_of_ble_eq_true rfl) dX11_bestSwap_76 (fun H locs hw => ?_) ⟨Nat.zero_le _, Nat.zero_le _⟩
        refine lv_iload hx hb dX11_bestSwap_79 (lv_at hl 0 rfl) ?_
        refine lv_iload hx hb dX11_bestSwap_81 (lv_at hl 4 rfl) ?_
        refine lv_icmp_le (tgt := 99) hx hb dX11_bestSwap_83 (by decide) (fun cn28 => ?_) (fun cn28 => ?_)
        · have hf := (if_pos cn28).symm.trans hf
          refine lv_iinc (lv' := [(6, .int (v11 + 1)), (7, .int v17), (0, .ref (xr g 0)), (1, .ref (xr g (100 + 2 * c7.toNatClampNeg))), (3, .int v8), (4, .int v9), (5, .int c10)]) hx hb dX11_bestSwap_99 hl (k := 6) rfl rfl (by decide) rfl (fun ls hl => ?_)
          refine lv_goto (tgt := 23) hx hb dX11_bestSwap_102 (by decide) ?_
          exact ih _ _ _ _ X _ _ _ hf hw (lv_sub hl [2, 3, 4, 5, 6, 0] rfl) kx
        · have hf := (if_neg cn28).symm.trans hf
          refine lv_iload hx hb dX11_bestSwap_86 (lv_at hl 0 rfl) ?_
          refine lv_istore (lv' := [(4, .int v17), (7, .int v17), (0, .ref (xr g 0)), (1, .ref (xr g (100 + 2 * c7.toNatClampNeg))), (3, .int v8), (5, .int c10), (6, .int v11)]) hx hb dX11_bestSwap_88 hl (by decide) rfl (fun ls hl => ?_)
          refine lv_bipush (v := 10) hx hb dX11_bestSwap_90 (by decide) ?_
          refine lv_iload hx hb dX11_bestSwap_92 (lv_at hl 5 rfl) ?_
          refine lv_imul hx hb dX11_bestSwap_94 ?_
          refine lv_iload hx hb dX11_bestSwap_95 (lv_at hl 6 rfl) ?_
          refine lv_iadd hx hb dX11_bestSwap_97 ?_
          refine lv_istore_n (lv' := [(3, .int ((10 * c10) + v11)), (4, .int v17), (7, .int v17), (0, .ref (xr g 0)), (1, .ref (xr g (100 + 2 * c7.toNatClampNeg))), (5, .int c10), (6, .int v11)]) hx hb dX11_bestSwap_98 rfl hl (by decide) rfl (fun ls hl => ?_)
          refine lv_iinc (lv' := [(6, .int (v11 + 1)), (3, .int ((10 * c10) + v11)), (4, .int v17), (7, .int v17), (0, .ref (xr g 0)), (1, .ref (xr g (100 + 2 * c7.toNatClampNeg))), (5, .int c10)]) hx hb dX11_bestSwap_99 hl (k := 6) rfl rfl (by decide) rfl (fun ls hl => ?_)
          refine lv_goto (tgt := 23) hx hb dX11_bestSwap_102 (by decide) ?_
          exact ih _ _ _ _ X _ _ _ hf hw (lv_sub hl [4, 5, 1, 2, 6, 0] rfl) kx
      · have hf := (if_pos cn27).symm.trans hf
        refine lv_goto (tgt := 99) hx hb dX11_bestSwap_49 (by decide) ?_
        refine lv_iinc (lv' := [(6, .int (v11 + 1)), (0, .ref (xr g 0)), (1, .ref (xr g (100 + 2 * c7.toNatClampNeg))), (3, .int v8), (4, .int v9), (5, .int c10)]) hx hb dX11_bestSwap_99 hl (k := 5) rfl rfl (by decide) rfl (fun ls hl => ?_)
        refine lv_goto (tgt := 23) hx hb dX11_bestSwap_102 (by decide) ?_
        exact ih _ _ _ _ X _ _ _ hf hw (lv_sub hl [1, 2, 3, 4, 5, 0] rfl) kx
def xf_X_bestSwap_L8 (N : Nat) (c1 : Int32) : Nat → xS → Int32 → Int32 → Int32 → Option (Int32 × xS)
  | 0, _, _, _, _ => none
  | n + 1, S5, v2, v3, v4 => (if c1.toNatClampNeg < S5.2.2.1 then (if (S5.1 56 c1.toNatClampNeg) ≤ v4 then some (v2, S5) else (bd3 (xf_X_bestSwap_L23 N c1 v4 N S5 v2 v3 (v4 + 1)) fun v20 v21 S22 => xf_X_bestSwap_L8 N c1 n S22 v20 v21 (v4 + 1))) else none)
set_option maxRecDepth 100000 in
theorem wx_X_bestSwap_L8 {p : Program} {l : Launch} {e : Env} {R : Room} {s : State} {m : MethodId} {args : Array Value} {below : List Frame} {meth : Method} {c : Code} {Q : State → Prop} {g : xG} {A : Nat → Prop} {H0 : Heap} (hc : qC RX11 cX11_bestSwap p s m args c) (hR : qRoom R 8) (hml : c.maxLocals = 8) (N : Nat) (c1 : Int32) : ∀ (n : Nat) (S5 : xS) (v2 : Int32) (v3 : Int32) (v4 : Int32) (X : Int32 × xS) (H : Heap) (locs : List Loc) (ls : Array Slot), xf_X_bestSwap_L8 N c1 n S5 v2 v3 v4 = some X → xI g A H0 s S5 H locs → lv_has ls 8 [(0, .ref (xr g 0)), (1, .ref (xr g (100 + 2 * c1.toNatClampNeg))), (3, .int v2), (4, .int v3), (5, .int v4)] → (∀ (H : Heap) (locs : List Loc) (ls : Array Slot), xI g A H0 s X.2 H locs → lv_has ls 8 [(3, .int X.1)] → W p l e R s m args below meth c H locs 0 0 Q (F0 m 111 ls [])) → W p l e R s m args below meth c H locs 0 0 Q (F0 m 8 ls []) := by
  have hx := hc.1
  have hb := hc.2.1
  intro n
  induction n with
  | zero => intro _ _ _ _ X H locs ls hf; exact nomatch (show none = some X from hf)
  | succ n ih =>
    intro S5 v2 v3 v4 X H locs ls hf hw hl kx
    rw [xf_X_bestSwap_L8] at hf
    refine lv_iload hx hb dX11_bestSwap_8 (lv_at hl 4 rfl) ?_
    refine lv_aload_n hx hb dX11_bestSwap_10 rfl (lv_at hl 1 rfl) ?_
    obtain ⟨hr6, hf⟩ := gd_some hf
    refine x_rg_seats hc hw hr6 fl_11_328 dX11_bestSwap_11 ?_
    refine lv_icmp_ge (tgt := 111) hx hb dX11_bestSwap_14 (by decide) (fun cn25 => ?_) (fun cn25 => ?_)
    · have hf := (if_pos cn25).symm.trans hf
      obtain rfl := Option.some.inj hf
      exact kx _ _ _ hw (lv_sub hl [2] rfl)
    · have hf := (if_neg cn25).symm.trans hf
      refine lv_iload hx hb dX11_bestSwap_17 (lv_at hl 4 rfl) ?_
      refine lv_iconst (v := 1) hx hb dX11_bestSwap_19 (by decide) ?_
      refine lv_iadd hx hb dX11_bestSwap_20 ?_
      refine lv_istore (lv' := [(6, .int (v4 + 1)), (0, .ref (xr g 0)), (1, .ref (xr g (100 + 2 * c1.toNatClampNeg))), (3, .int v2), (4, .int v3), (5, .int v4)]) hx hb dX11_bestSwap_21 hl (by decide) rfl (fun ls hl => ?_)
      obtain ⟨v20, v21, S22, hL, hf⟩ := bd3_some hf
      refine wx_X_bestSwap_L23 hc hR hml N c1 v4 N _ _ _ _ _ _ _ _ hL hw (lv_sub hl [1, 2, 3, 4, 5, 0] rfl) (fun H locs ls hw hl => ?_)
      refine lv_iinc (lv' := [(5, .int (v4 + 1)), (0, .ref (xr g 0)), (1, .ref (xr g (100 + 2 * c1.toNatClampNeg))), (3, .int v20), (4, .int v21)]) hx hb dX11_bestSwap_105 hl (k := 4) rfl rfl (by decide) rfl (fun ls hl => ?_)
      refine lv_goto (tgt := 8) hx hb dX11_bestSwap_108 (by decide) ?_
      exact ih _ _ _ _ X _ _ _ hf hw (lv_sub hl [1, 2, 3, 4, 0] rfl) kx
def xf_X_bestSwap (N : Nat) (S : xS) (a1 : Int32) (a2 : Int32) : Option (Int32 × xS) := (bd2 (xf_X_bestSwap_L8 N a1 N S (-1) a2 0) fun v23 S24 => some (v23, S24))
set_option maxRecDepth 100000 in
theorem cx_X_bestSwap (l : Launch) (N : Nat) (S : xS) (a1 : Int32) (a2 : Int32) (res : Int32) (S1 : xS) (hf : xf_X_bestSwap N S a1 a2 = some (res, S1)) : xMi l yX11_bestSwap cX11_bestSwap 8 .int 8 (fun g => [.ref (xr g 0), .ref (xr g (100 + 2 * a1.toNatClampNeg)), .int a2]) S res S1 := by
  refine xMi_of (own := RX11) (by decide) rfl rfl (fun g => Nat.le_of_ble_eq_true rfl) ?_
  intro p e R s m args below meth c Q g A H0 H locs ls hc hR hml hw hl hQ
  have hl : lv_has ls 8 [(0, .ref (xr g 0)), (1, .ref (xr g (100 + 2 * a1.toNatClampNeg))), (2, .int a2)] := hl
  have hx := hc.1
  have hb := hc.2.1
  unfold xf_X_bestSwap at hf
  refine lv_iconst (v := (-1)) hx hb dX11_bestSwap_0 (by decide) ?_
  refine lv_istore_n (lv' := [(3, .int (-1)), (0, .ref (xr g 0)), (1, .ref (xr g (100 + 2 * a1.toNatClampNeg))), (2, .int a2)]) hx hb dX11_bestSwap_1 rfl hl (by decide) rfl (fun ls hl => ?_)
  refine lv_iload_n hx hb dX11_bestSwap_2 rfl (lv_at hl 3 rfl) ?_
  refine lv_istore (lv' := [(4, .int a2), (3, .int (-1)), (0, .ref (xr g 0)), (1, .ref (xr g (100 + 2 * a1.toNatClampNeg))), (2, .int a2)]) hx hb dX11_bestSwap_3 hl (by decide) rfl (fun ls hl => ?_)
  refine lv_iconst (v := 0) hx hb dX11_bestSwap_5 (by decide) ?_
  refine lv_istore (lv' := [(5, .int 0), (4, .int a2), (3, .int (-1)), (0, .ref (xr g 0)), (1, .ref (xr g (100 + 2 * a1.toNatClampNeg))), (2, .int a2)]) hx hb dX11_bestSwap_6 hl (by decide) rfl (fun ls hl => ?_)
  obtain ⟨v23, S24, hL, hf⟩ := bd2_some hf
  refine wx_X_bestSwap_L8 hc hR hml N a1 N _ _ _ _ _ _ _ _ hL hw (lv_sub hl [3, 4, 2, 1, 0] rfl) (fun H locs ls hw hl => ?_)
  refine lv_iload_n hx hb dX11_bestSwap_111 rfl (lv_at hl 0 rfl) ?_
  obtain ⟨rfl, rfl⟩ := pr2_some hf
  exact hQ _ _ _ _ dX11_bestSwap_112 hw
def xf_X_hat (N : Nat) (S : xS) (a1 : Int32) (a2 : Int32) (a3 : Int32) : Option (Int32 × xS) := (bd1 (xf_H_rowWith N S a1 a2) fun v1 => (if v1 < 0 then some ((-5), S) else (if (xf_X_isIn a3 0 40) = true then (bd2 (xf_H_allWorth N S) fun v3 S4 => (bd2 (xf_H_allWorth N (xs (xs (xs S4 24 0 v1) 22 0 a2) 23 0 a3)) fun v5 S6 => some (v3 - v5, xs S6 24 0 (-1)))) else some ((-7), S))))
set_option maxRecDepth 100000 in
theorem cx_X_hat (l : Launch) (N : Nat) (S : xS) (a1 : Int32) (a2 : Int32) (a3 : Int32) (res : Int32) (S1 : xS) (hf : xf_X_hat N S a1 a2 a3 = some (res, S1)) : xMi l yX11_hat cX11_hat 7 .int 8 (fun g => [.ref (xr g 0), .int a1, .int a2, .int a3]) S res S1 := by
  refine xMi_of (own := RX11) (by decide) rfl rfl (fun g => Nat.le_of_ble_eq_true rfl) ?_
  intro p e R s m args below meth c Q g A H0 H locs ls hc hR hml hw hl hQ
  have hl : lv_has ls 7 [(0, .ref (xr g 0)), (1, .int a1), (2, .int a2), (3, .int a3)] := hl
  have hx := hc.1
  have hb := hc.2.1
  unfold xf_X_hat at hf
  refine lv_aload_n hx hb dX11_hat_0 rfl (lv_at hl 0 rfl) ?_
  refine x_g_this_hall hc hw fl_11_10 dX11_hat_1 ?_
  refine lv_iload_n hx hb dX11_hat_4 rfl (lv_at hl 1 rfl) ?_
  refine lv_iload_n hx hb dX11_hat_5 rfl (lv_at hl 2 rfl) ?_
  obtain ⟨v1, hcall, hf⟩ := bd1_some hf
  refine x_cvr (As := [.int a1, .int a2]) (rest := []) hc hw hR (hml.trans hl.1.symm) (cx_H_rowWith l N S a1 a2 v1 hcall) xq_11_H_rowWith (x_recv_hall hw) (by decide) rfl rfl rfl (Nat.le_of_ble_eq_true rfl) dX11_hat_6 (fun H locs hw => ?_) ⟨Nat.zero_le _, Nat.zero_le _⟩
  refine x_splitr (fun cn2 => ?_) (fun cn2 => ?_)
  · have hf := (if_pos cn2).symm.trans hf
    refine lv_astoreN (lv' := [(4, .null), (0, .ref (xr g 0)), (1, .int a1), (2, .int a2), (3, .int a3)]) hx hb dX11_hat_9 hl (by decide) rfl (fun ls hl => ?_)
    refine lv_aloadN hx hb dX11_hat_11 (lv_at hl 0 rfl) ?_
    refine lv_ifnonnullN hx hb dX11_hat_13 ?_
    refine lv_bipush (v := (-5)) hx hb dX11_hat_16 (by decide) ?_
    obtain ⟨rfl, rfl⟩ := pr2_some hf
    exact hQ _ _ _ _ dX11_hat_18 hw
  · have hf := (if_neg cn2).symm.trans hf
    refine lv_astore (lv' := [(4, .ref (xr g (100 + 2 * v1.toNatClampNeg))), (0, .ref (xr g 0)), (1, .int a1), (2, .int a2), (3, .int a3)]) hx hb dX11_hat_9 hl (by decide) rfl (fun ls hl => ?_)
    refine lv_aload hx hb dX11_hat_11 (lv_at hl 0 rfl) ?_
    refine lv_ifnonnull (tgt := 19) hx hb dX11_hat_13 (by decide) ?_
    refine lv_iload_n hx hb dX11_hat_19 rfl (lv_at hl 4 rfl) ?_
    refine lv_iconst (v := 0) hx hb dX11_hat_20 (by decide) ?_
    refine lv_bipush (v := 40) hx hb dX11_hat_21 (by decide) ?_
    refine x_csi (As := [.int a3, .int 0, .int 40]) (rest := []) hc hw hR (hml.trans hl.1.symm) (cx_X_isIn l S a3 0 40 _ rfl) xq_11_X_isIn (by decide) rfl rfl rfl (Nat.le_of_ble_eq_true rfl) dX11_hat_23 (fun H locs hw => ?_) ⟨Nat.zero_le _, Nat.zero_le _⟩
    refine lv_if_neb (tgt := 32) hx hb dX11_hat_26 (by decide) (fun cn7 => ?_) (fun cn7 => ?_)
    · have hf := (if_pos cn7).symm.trans hf
      refine lv_aload_n hx hb dX11_hat_32 rfl (lv_at hl 1 rfl) ?_
      refine x_g_this_hall hc hw fl_11_10 dX11_hat_33 ?_
      obtain ⟨v3, S4, hcall, hf⟩ := bd2_some hf
      refine x_cvi (As := []) (rest := []) hc hw hR (hml.trans hl.1.symm) (cx_H_allWorth l N S v3 S4 hcall) xq_11_H_allWorth (x_recv_hall hw) (by decide) rfl rfl rfl (Nat.le_of_ble_eq_true rfl) dX11_hat_36 (fun H locs hw => ?_) ⟨Nat.zero_le _, Nat.zero_le _⟩
      refine lv_istore (lv' := [(5, .int v3), (4, .ref (xr g (100 + 2 * v1.toNatClampNeg))), (0, .ref (xr g 0)), (1, .int a1), (2, .int a2), (3, .int a3)]) hx hb dX11_hat_39 hl (by decide) rfl (fun ls hl => ?_)
      refine lv_aload_n hx hb dX11_hat_41 rfl (lv_at hl 2 rfl) ?_
      refine x_g_this_hall hc hw fl_11_10 dX11_hat_42 ?_
      refine lv_aload hx hb dX11_hat_45 (lv_at hl 1 rfl) ?_
      refine x_p_hall_hatRow hc hw fl_11_331 (x := v1) cn2 dX11_hat_47 (fun H locs hw => ?_)
      refine lv_aload_n hx hb dX11_hat_50 rfl (lv_at hl 2 rfl) ?_
      refine x_g_this_hall hc hw fl_11_10 dX11_hat_51 ?_
      refine lv_iload_n hx hb dX11_hat_54 rfl (lv_at hl 4 rfl) ?_
      refine x_p_hall_hatSeat hc hw fl_11_335 dX11_hat_55 (fun H locs hw => ?_)
      refine lv_aload_n hx hb dX11_hat_58 rfl (lv_at hl 2 rfl) ?_
      refine x_g_this_hall hc hw fl_11_10 dX11_hat_59 ?_
      refine lv_iload_n hx hb dX11_hat_62 rfl (lv_at hl 5 rfl) ?_
      refine x_p_hall_hatHigh hc hw fl_11_338 dX11_hat_63 (fun H locs hw => ?_)
      refine lv_aload_n hx hb dX11_hat_66 rfl (lv_at hl 2 rfl) ?_
      refine x_g_this_hall hc hw fl_11_10 dX11_hat_67 ?_
      obtain ⟨v5, S6, hcall, hf⟩ := bd2_some hf
      refine x_cvi (As := []) (rest := []) hc hw hR (hml.trans hl.1.symm) (cx_H_allWorth l N (xs (xs (xs S4 24 0 v1) 22 0 a2) 23 0 a3) v5 S6 hcall) xq_11_H_allWorth (x_recv_hall hw) (by decide) rfl rfl rfl (Nat.le_of_ble_eq_true rfl) dX11_hat_70 (fun H locs hw => ?_) ⟨Nat.zero_le _, Nat.zero_le _⟩
      refine lv_istore (lv' := [(6, .int v5), (5, .int v3), (4, .ref (xr g (100 + 2 * v1.toNatClampNeg))), (0, .ref (xr g 0)), (1, .int a1), (2, .int a2), (3, .int a3)]) hx hb dX11_hat_73 hl (by decide) rfl (fun ls hl => ?_)
      refine lv_aload_n hx hb dX11_hat_75 rfl (lv_at hl 3 rfl) ?_
      refine x_g_this_hall hc hw fl_11_10 dX11_hat_76 ?_
      refine lv_null hx hb dX11_hat_79 ?_
      refine x_pN_hall_hatRow hc hw fl_11_331 dX11_hat_80 (fun H locs hw => ?_)
      refine lv_iload hx hb dX11_hat_83 (lv_at hl 1 rfl) ?_
      refine lv_iload hx hb dX11_hat_85 (lv_at hl 0 rfl) ?_
      refine lv_isub hx hb dX11_hat_87 ?_
      obtain ⟨rfl, rfl⟩ := pr2_some hf
      exact hQ _ _ _ _ dX11_hat_88 hw
    · have hf := (if_neg cn7).symm.trans hf
      refine lv_bipush (v := (-7)) hx hb dX11_hat_29 (by decide) ?_
      obtain ⟨rfl, rfl⟩ := pr2_some hf
      exact hQ _ _ _ _ dX11_hat_31 hw
def xf_X_least_L29 (N : Nat) (c2 : Int32) (c3 : Int32) : Nat → xS → Int32 → Int32 → Int32 → Option (Int32 × xS)
  | 0, _, _, _, _ => none
  | n + 1, S7, v4, v5, v6 => (if 20 < v6 then some (v4, S7) else (if ok c2 4 then (bd2 (xf_H_allWorth N (xs S7 14 c2.toNatClampNeg v6)) fun v9 S10 => (if v9 ≤ v5 then xf_X_least_L29 N c2 c3 n S10 v4 v5 (v6 + 1) else xf_X_least_L29 N c2 c3 n S10 v6 v9 (v6 + 1))) else none))
set_option maxRecDepth 100000 in
theorem wx_X_least_L29 {p : Program} {l : Launch} {e : Env} {R : Room} {s : State} {m : MethodId} {args : Array Value} {below : List Frame} {meth : Method} {c : Code} {Q : State → Prop} {g : xG} {A : Nat → Prop} {H0 : Heap} (hc : qC RX11 cX11_least p s m args c) (hR : qRoom R 8) (hml : c.maxLocals = 7) (N : Nat) (c2 : Int32) (c3 : Int32) : ∀ (n : Nat) (S7 : xS) (v4 : Int32) (v5 : Int32) (v6 : Int32) (X : Int32 × xS) (H : Heap) (locs : List Loc) (ls : Array Slot), xf_X_least_L29 N c2 c3 n S7 v4 v5 v6 = some X → xI g A H0 s S7 H locs → lv_has ls 7 [(0, .ref (xr g 0)), (1, .int c2), (2, .int c3), (3, .int v4), (4, .int v5), (5, .int v6)] → (∀ (H : Heap) (locs : List Loc) (ls : Array Slot), xI g A H0 s X.2 H locs → lv_has ls 7 [(0, .ref (xr g 0)), (1, .int c2), (2, .int c3), (3, .int X.1)] → W p l e R s m args below meth c H locs 0 0 Q (F0 m 76 ls [])) → W p l e R s m args below meth c H locs 0 0 Q (F0 m 29 ls []) := by
  have hx := hc.1
  have hb := hc.2.1
  intro n
  induction n with
  | zero => intro _ _ _ _ X H locs ls hf; exact nomatch (show none = some X from hf)
  | succ n ih =>
    intro S7 v4 v5 v6 X H locs ls hf hw hl kx
    rw [xf_X_least_L29] at hf
    refine lv_iload hx hb dX11_least_29 (lv_at hl 5 rfl) ?_
    refine lv_bipush (v := 20) hx hb dX11_least_31 (by decide) ?_
    refine lv_icmp_gt (tgt := 76) hx hb dX11_least_33 (by decide) (fun cn14 => ?_) (fun cn14 => ?_)
    · have hf := (if_pos cn14).symm.trans hf
      obtain rfl := Option.some.inj hf
      exact kx _ _ _ hw (lv_sub hl [0, 1, 2, 3] rfl)
    · have hf := (if_neg cn14).symm.trans hf
      refine lv_aload_n hx hb dX11_least_36 rfl (lv_at hl 0 rfl) ?_
      refine x_g_this_hall hc hw fl_11_10 dX11_least_37 ?_
      refine x_g_hall_postPlaces hc hw fl_11_206 dX11_least_40 ?_
      refine lv_iload_n hx hb dX11_least_43 rfl (lv_at hl 1 rfl) ?_
      refine lv_iload hx hb dX11_least_44 (lv_at hl 5 rfl) ?_
      obtain ⟨hi8, hf⟩ := gd_some hf
      refine x_s_hall_postPlaces hc hw (ok_in hi8) dX11_least_46 (fun H locs hw => ?_)
      refine lv_aload_n hx hb dX11_least_47 rfl (lv_at hl 0 rfl) ?_
      refine x_g_this_hall hc hw fl_11_10 dX11_least_48 ?_
      obtain ⟨v9, S10, hcall, hf⟩ := bd2_some hf
      refine x_cvi (As := []) (rest := []) hc hw hR (hml.trans hl.1.symm) (cx_H_allWorth l N (xs S7 14 c2.toNatClampNeg v6) v9 S10 hcall) xq_11_H_allWorth (x_recv_hall hw) (by decide) rfl rfl rfl (Nat.le_of_ble_eq_true rfl) dX11_least_51 (fun H locs hw => ?_) ⟨Nat.zero_le _, Nat.zero_le _⟩
      refine lv_istore (lv' := [(6, .int v9), (0, .ref (xr g 0)), (1, .int c2), (2, .int c3), (3, .int v4), (4, .int v5), (5, .int v6)]) hx hb dX11_least_54 hl (by decide) rfl (fun ls hl => ?_)
      refine lv_iload hx hb dX11_least_56 (lv_at hl 0 rfl) ?_
      refine lv_iload hx hb dX11_least_58 (lv_at hl 5 rfl) ?_
      refine lv_icmp_le (tgt := 70) hx hb dX11_least_60 (by decide) (fun cn15 => ?_) (fun cn15 => ?_)
      · have hf := (if_pos cn15).symm.trans hf
        refine lv_iinc (lv' := [(5, .int (v6 + 1)), (6, .int v9), (0, .ref (xr g 0)), (1, .int c2), (2, .int c3), (3, .int v4), (4, .int v5)]) hx hb dX11_least_70 hl (k := 6) rfl rfl (by decide) rfl (fun ls hl => ?_)
        refine lv_goto (tgt := 29) hx hb dX11_least_73 (by decide) ?_
        exact ih _ _ _ _ X _ _ _ hf hw (lv_sub hl [2, 3, 4, 5, 6, 0] rfl) kx
      · have hf := (if_neg cn15).symm.trans hf
        refine lv_iload hx hb dX11_least_63 (lv_at hl 0 rfl) ?_
        refine lv_istore (lv' := [(4, .int v9), (6, .int v9), (0, .ref (xr g 0)), (1, .int c2), (2, .int c3), (3, .int v4), (5, .int v6)]) hx hb dX11_least_65 hl (by decide) rfl (fun ls hl => ?_)
        refine lv_iload hx hb dX11_least_67 (lv_at hl 6 rfl) ?_
        refine lv_istore_n (lv' := [(3, .int v6), (4, .int v9), (6, .int v9), (0, .ref (xr g 0)), (1, .int c2), (2, .int c3), (5, .int v6)]) hx hb dX11_least_69 rfl hl (by decide) rfl (fun ls hl => ?_)
        refine lv_iinc (lv' := [(5, .int (v6 + 1)), (3, .int v6), (4, .int v9), (6, .int v9), (0, .ref (xr g 0)), (1, .int c2), (2, .int c3)]) hx hb dX11_least_70 hl (k := 6) rfl rfl (by decide) rfl (fun ls hl => ?_)
        refine lv_goto (tgt := 29) hx hb dX11_least_73 (by decide) ?_
        exact ih _ _ _ _ X _ _ _ hf hw (lv_sub hl [4, 5, 6, 1, 2, 0] rfl) kx
def xf_X_least (N : Nat) (S : xS) (a1 : Int32) : Option (Int32 × xS) := (if (xf_X_isPost S a1) = true then (if ok a1 4 then (bd2 (xf_X_least_L29 N a1 (S.1 14 a1.toNatClampNeg) N S 0 (-1) 0) fun v11 S12 => some (v11, xs S12 14 a1.toNatClampNeg (S.1 14 a1.toNatClampNeg))) else none) else some ((-5), S))
set_option maxRecDepth 100000 in
theorem cx_X_least (l : Launch) (N : Nat) (S : xS) (a1 : Int32) (res : Int32) (S1 : xS) (hf : xf_X_least N S a1 = some (res, S1)) : xMi l yX11_least cX11_least 7 .int 8 (fun g => [.ref (xr g 0), .int a1]) S res S1 := by
  refine xMi_of (own := RX11) (by decide) rfl rfl (fun g => Nat.le_of_ble_eq_true rfl) ?_
  intro p e R s m args below meth c Q g A H0 H locs ls hc hR hml hw hl hQ
  have hl : lv_has ls 7 [(0, .ref (xr g 0)), (1, .int a1)] := hl
  have hx := hc.1
  have hb := hc.2.1
  unfold xf_X_least at hf
  refine lv_aload_n hx hb dX11_least_0 rfl (lv_at hl 0 rfl) ?_
  refine lv_iload_n hx hb dX11_least_1 rfl (lv_at hl 1 rfl) ?_
  refine x_cvi (As := [.int a1]) (rest := []) hc hw hR (hml.trans hl.1.symm) (cx_X_isPost l S a1 _ rfl) xq_11_X_isPost (x_recv_this hw) (by decide) rfl rfl rfl (Nat.le_of_ble_eq_true rfl) dX11_least_2 (fun H locs hw => ?_) ⟨Nat.zero_le _, Nat.zero_le _⟩
  refine lv_if_neb (tgt := 11) hx hb dX11_least_5 (by decide) (fun cn13 => ?_) (fun cn13 => ?_)
  · have hf := (if_pos cn13).symm.trans hf
    refine lv_aload_n hx hb dX11_least_11 rfl (lv_at hl 0 rfl) ?_
    refine x_g_this_hall hc hw fl_11_10 dX11_least_12 ?_
    refine x_g_hall_postPlaces hc hw fl_11_206 dX11_least_15 ?_
    refine lv_iload_n hx hb dX11_least_18 rfl (lv_at hl 1 rfl) ?_
    obtain ⟨hi1, hf⟩ := gd_some hf
    refine x_l_hall_postPlaces hc hw (ok_in hi1) dX11_least_19 ?_
    refine lv_istore_n (lv' := [(2, .int (S.1 14 a1.toNatClampNeg)), (0, .ref (xr g 0)), (1, .int a1)]) hx hb dX11_least_20 rfl hl (by decide) rfl (fun ls hl => ?_)
    refine lv_iconst (v := 0) hx hb dX11_least_21 (by decide) ?_
    refine lv_istore_n (lv' := [(3, .int 0), (2, .int (S.1 14 a1.toNatClampNeg)), (0, .ref (xr g 0)), (1, .int a1)]) hx hb dX11_least_22 rfl hl (by decide) rfl (fun ls hl => ?_)
    refine lv_iconst (v := (-1)) hx hb dX11_least_23 (by decide) ?_
    refine lv_istore (lv' := [(4, .int (-1)), (3, .int 0), (2, .int (S.1 14 a1.toNatClampNeg)), (0, .ref (xr g 0)), (1, .int a1)]) hx hb dX11_least_24 hl (by decide) rfl (fun ls hl => ?_)
    refine lv_iconst (v := 0) hx hb dX11_least_26 (by decide) ?_
    refine lv_istore (lv' := [(5, .int 0), (4, .int (-1)), (3, .int 0), (2, .int (S.1 14 a1.toNatClampNeg)), (0, .ref (xr g 0)), (1, .int a1)]) hx hb dX11_least_27 hl (by decide) rfl (fun ls hl => ?_)
    obtain ⟨v11, S12, hL, hf⟩ := bd2_some hf
    refine wx_X_least_L29 hc hR hml N a1 (S.1 14 a1.toNatClampNeg) N _ _ _ _ _ _ _ _ hL hw (lv_sub hl [4, 5, 3, 2, 1, 0] rfl) (fun H locs ls hw hl => ?_)
    refine lv_aload_n hx hb dX11_least_76 rfl (lv_at hl 0 rfl) ?_
    refine x_g_this_hall hc hw fl_11_10 dX11_least_77 ?_
    refine x_g_hall_postPlaces hc hw fl_11_206 dX11_least_80 ?_
    refine lv_iload_n hx hb dX11_least_83 rfl (lv_at hl 1 rfl) ?_
    refine lv_iload_n hx hb dX11_least_84 rfl (lv_at hl 2 rfl) ?_
    refine x_s_hall_postPlaces hc hw (ok_in hi1) dX11_least_85 (fun H locs hw => ?_)
    refine lv_iload_n hx hb dX11_least_86 rfl (lv_at hl 3 rfl) ?_
    obtain ⟨rfl, rfl⟩ := pr2_some hf
    exact hQ _ _ _ _ dX11_least_87 hw
  · have hf := (if_neg cn13).symm.trans hf
    refine lv_bipush (v := (-5)) hx hb dX11_least_8 (by decide) ?_
    obtain ⟨rfl, rfl⟩ := pr2_some hf
    exact hQ _ _ _ _ dX11_least_10 hw
def xf_H_pricesInto_L15 (N : Nat) (c5 : Int32) : Nat → xS → Int32 → Int32 → Option (Int32 × xS)
  | 0, _, _, _ => none
  | n + 1, S7, v4, v6 => (if ok c5 6 then (if c5.toNatClampNeg < S7.2.2.1 then (if (S7.1 56 c5.toNatClampNeg) ≤ v6 then some (v4, S7) else (if 48 ≤ v4 then some (v4, S7) else (bd2 (xf_H_priceOf N S7 c5 v6) fun v10 S11 => (if ok v4 48 then xf_H_pricesInto_L15 N c5 n (xs S11 7 v4.toNatClampNeg v10) (v4 + 1) (v6 + 1) else none)))) else none) else none)
set_option maxRecDepth 100000 in
theorem wx_H_pricesInto_L15 {p : Program} {l : Launch} {e : Env} {R : Room} {s : State} {m : MethodId} {args : Array Value} {below : List Frame} {meth : Method} {c : Code} {Q : State → Prop} {g : xG} {A : Nat → Prop} {H0 : Heap} (hc : qC RX1 cX1_pricesInto p s m args c) (hR : qRoom R 8) (hml : c.maxLocals = 5) (N : Nat) (c5 : Int32) : ∀ (n : Nat) (S7 : xS) (v4 : Int32) (v6 : Int32) (X : Int32 × xS) (H : Heap) (locs : List Loc) (ls : Array Slot), xf_H_pricesInto_L15 N c5 n S7 v4 v6 = some X → xI g A H0 s S7 H locs → lv_has ls 5 [(0, .ref (xr g 1)), (1, .ref (xr g 6)), (2, .int v4), (3, .int c5), (4, .int v6)] → (∀ (H : Heap) (locs : List Loc) (ls : Array Slot), xI g A H0 s X.2 H locs → lv_has ls 5 [(0, .ref (xr g 1)), (1, .ref (xr g 6)), (2, .int X.1), (3, .int c5)] → W p l e R s m args below meth c H locs 0 0 Q (F0 m 59 ls [])) → W p l e R s m args below meth c H locs 0 0 Q (F0 m 15 ls []) := by
  have hx := hc.1
  have hb := hc.2.1
  intro n
  induction n with
  | zero => intro _ _ _ X H locs ls hf; exact nomatch (show none = some X from hf)
  | succ n ih =>
    intro S7 v4 v6 X H locs ls hf hw hl kx
    rw [xf_H_pricesInto_L15] at hf
    refine lv_iload hx hb dX1_pricesInto_15 (lv_at hl 4 rfl) ?_
    refine lv_aload_n hx hb dX1_pricesInto_17 rfl (lv_at hl 0 rfl) ?_
    refine x_g_hall_rows hc hw fl_1_23 dX1_pricesInto_18 ?_
    refine lv_iload_n hx hb dX1_pricesInto_21 rfl (lv_at hl 3 rfl) ?_
    obtain ⟨hi8, hf⟩ := gd_some hf
    obtain ⟨hr9, hf⟩ := gd_some hf
    refine x_l_rows hc hw (ok_in hi8) hr9 dX1_pricesInto_22 ?_
    refine x_rg_seats hc hw hr9 fl_1_86 dX1_pricesInto_23 ?_
    refine lv_icmp_ge (tgt := 59) hx hb dX1_pricesInto_26 (by decide) (fun cn18 => ?_) (fun cn18 => ?_)
    · have hf := (if_pos cn18).symm.trans hf
      obtain rfl := Option.some.inj hf
      exact kx _ _ _ hw (lv_sub hl [0, 1, 2, 3] rfl)
    · have hf := (if_neg cn18).symm.trans hf
      refine lv_iload_n hx hb dX1_pricesInto_29 rfl (lv_at hl 2 rfl) ?_
      refine lv_aload_n hx hb dX1_pricesInto_30 rfl (lv_at hl 1 rfl) ?_
      refine va_alen (v := 48) hx hb hw.1 hw.2.1 6 0 ((xW_A (by decide)).trans rfl) rfl rfl dX1_pricesInto_31 ?_
      refine lv_icmp_ge (tgt := 59) hx hb dX1_pricesInto_32 (by decide) (fun cn19 => ?_) (fun cn19 => ?_)
      · have hf := (if_pos cn19).symm.trans hf
        obtain rfl := Option.some.inj hf
        exact kx _ _ _ hw (lv_sub hl [0, 1, 2, 3] rfl)
      · have hf := (if_neg cn19).symm.trans hf
        refine lv_aload_n hx hb dX1_pricesInto_35 rfl (lv_at hl 1 rfl) ?_
        refine lv_iload_n hx hb dX1_pricesInto_36 rfl (lv_at hl 2 rfl) ?_
        refine lv_aload_n hx hb dX1_pricesInto_37 rfl (lv_at hl 0 rfl) ?_
        refine lv_aload_n hx hb dX1_pricesInto_38 rfl (lv_at hl 0 rfl) ?_
        refine x_g_hall_rows hc hw fl_1_23 dX1_pricesInto_39 ?_
        refine lv_iload_n hx hb dX1_pricesInto_42 rfl (lv_at hl 3 rfl) ?_
        refine x_l_rows hc hw (ok_in hi8) hr9 dX1_pricesInto_43 ?_
        refine lv_iload hx hb dX1_pricesInto_44 (lv_at hl 4 rfl) ?_
        obtain ⟨v10, S11, hcall, hf⟩ := bd2_some hf
        refine x_cvi (As := [.ref (xr g (100 + 2 * c5.toNatClampNeg)), .int v6]) (rest := [.int v4, .ref (xr g 6)]) hc hw hR (hml.trans hl.1.symm) (cx_H_priceOf l N S7 c5 v6 v10 S11 hcall) xq_1_H_priceOf (x_recv_hall hw) (by decide) rfl rfl rfl (Nat.le_of_ble_eq_true rfl) dX1_pricesInto_46 (fun H locs hw => ?_) ⟨Nat.zero_le _, Nat.zero_le _⟩
        obtain ⟨hi12, hf⟩ := gd_some hf
        refine x_s_this_prices hc hw (ok_in hi12) dX1_pricesInto_49 (fun H locs hw => ?_)
        refine lv_iinc (lv' := [(2, .int (v4 + 1)), (0, .ref (xr g 1)), (1, .ref (xr g 6)), (3, .int c5), (4, .int v6)]) hx hb dX1_pricesInto_50 hl (k := 2) rfl rfl (by decide) rfl (fun ls hl => ?_)
        refine lv_iinc (lv' := [(4, .int (v6 + 1)), (2, .int (v4 + 1)), (0, .ref (xr g 1)), (1, .ref (xr g 6)), (3, .int c5)]) hx hb dX1_pricesInto_53 hl (k := 4) rfl rfl (by decide) rfl (fun ls hl => ?_)
        refine lv_goto (tgt := 15) hx hb dX1_pricesInto_56 (by decide) ?_
        exact ih _ _ _ X _ _ _ hf hw (lv_sub hl [2, 3, 1, 4, 0] rfl) kx
def xf_H_pricesInto_L4 (N : Nat) : Nat → xS → Int32 → Int32 → Option (Int32 × xS)
  | 0, _, _, _ => none
  | n + 1, S3, v1, v2 => (if (S3.1 16 0) ≤ v2 then some (v1, S3) else (bd2 (xf_H_pricesInto_L15 N v2 N S3 v1 0) fun v13 S14 => xf_H_pricesInto_L4 N n S14 v13 (v2 + 1)))
set_option maxRecDepth 100000 in
theorem wx_H_pricesInto_L4 {p : Program} {l : Launch} {e : Env} {R : Room} {s : State} {m : MethodId} {args : Array Value} {below : List Frame} {meth : Method} {c : Code} {Q : State → Prop} {g : xG} {A : Nat → Prop} {H0 : Heap} (hc : qC RX1 cX1_pricesInto p s m args c) (hR : qRoom R 8) (hml : c.maxLocals = 5) (N : Nat) : ∀ (n : Nat) (S3 : xS) (v1 : Int32) (v2 : Int32) (X : Int32 × xS) (H : Heap) (locs : List Loc) (ls : Array Slot), xf_H_pricesInto_L4 N n S3 v1 v2 = some X → xI g A H0 s S3 H locs → lv_has ls 5 [(0, .ref (xr g 1)), (1, .ref (xr g 6)), (2, .int v1), (3, .int v2)] → (∀ (H : Heap) (locs : List Loc) (ls : Array Slot), xI g A H0 s X.2 H locs → lv_has ls 5 [(2, .int X.1)] → W p l e R s m args below meth c H locs 0 0 Q (F0 m 65 ls [])) → W p l e R s m args below meth c H locs 0 0 Q (F0 m 4 ls []) := by
  have hx := hc.1
  have hb := hc.2.1
  intro n
  induction n with
  | zero => intro _ _ _ X H locs ls hf; exact nomatch (show none = some X from hf)
  | succ n ih =>
    intro S3 v1 v2 X H locs ls hf hw hl kx
    rw [xf_H_pricesInto_L4] at hf
    refine lv_iload_n hx hb dX1_pricesInto_4 rfl (lv_at hl 3 rfl) ?_
    refine lv_aload_n hx hb dX1_pricesInto_5 rfl (lv_at hl 0 rfl) ?_
    refine x_g_hall_rowCount hc hw fl_1_42 dX1_pricesInto_6 ?_
    refine lv_icmp_ge (tgt := 65) hx hb dX1_pricesInto_9 (by decide) (fun cn17 => ?_) (fun cn17 => ?_)
    · have hf := (if_pos cn17).symm.trans hf
      obtain rfl := Option.some.inj hf
      exact kx _ _ _ hw (lv_sub hl [2] rfl)
    · have hf := (if_neg cn17).symm.trans hf
      refine lv_iconst (v := 0) hx hb dX1_pricesInto_12 (by decide) ?_
      refine lv_istore (lv' := [(4, .int 0), (0, .ref (xr g 1)), (1, .ref (xr g 6)), (2, .int v1), (3, .int v2)]) hx hb dX1_pricesInto_13 hl (by decide) rfl (fun ls hl => ?_)
      obtain ⟨v13, S14, hL, hf⟩ := bd2_some hf
      refine wx_H_pricesInto_L15 hc hR hml N v2 N _ _ _ _ _ _ _ hL hw (lv_sub hl [1, 2, 3, 4, 0] rfl) (fun H locs ls hw hl => ?_)
      refine lv_iinc (lv' := [(3, .int (v2 + 1)), (0, .ref (xr g 1)), (1, .ref (xr g 6)), (2, .int v13)]) hx hb dX1_pricesInto_59 hl (k := 3) rfl rfl (by decide) rfl (fun ls hl => ?_)
      refine lv_goto (tgt := 4) hx hb dX1_pricesInto_62 (by decide) ?_
      exact ih _ _ _ X _ _ _ hf hw (lv_sub hl [1, 2, 3, 0] rfl) kx
def xf_H_pricesInto (N : Nat) (S : xS) : Option (Int32 × xS) := (bd2 (xf_H_pricesInto_L4 N N S 0 0) fun v15 S16 => some (v15, S16))
set_option maxRecDepth 100000 in
theorem cx_H_pricesInto (l : Launch) (N : Nat) (S : xS) (res : Int32) (S1 : xS) (hf : xf_H_pricesInto N S = some (res, S1)) : xMi l yX1_pricesInto cX1_pricesInto 5 .int 8 (fun g => [.ref (xr g 1), .ref (xr g 6)]) S res S1 := by
  refine xMi_of (own := RX1) (by decide) rfl rfl (fun g => Nat.le_of_ble_eq_true rfl) ?_
  intro p e R s m args below meth c Q g A H0 H locs ls hc hR hml hw hl hQ
  have hl : lv_has ls 5 [(0, .ref (xr g 1)), (1, .ref (xr g 6))] := hl
  have hx := hc.1
  have hb := hc.2.1
  unfold xf_H_pricesInto at hf
  refine lv_iconst (v := 0) hx hb dX1_pricesInto_0 (by decide) ?_
  refine lv_istore_n (lv' := [(2, .int 0), (0, .ref (xr g 1)), (1, .ref (xr g 6))]) hx hb dX1_pricesInto_1 rfl hl (by decide) rfl (fun ls hl => ?_)
  refine lv_iconst (v := 0) hx hb dX1_pricesInto_2 (by decide) ?_
  refine lv_istore_n (lv' := [(3, .int 0), (2, .int 0), (0, .ref (xr g 1)), (1, .ref (xr g 6))]) hx hb dX1_pricesInto_3 rfl hl (by decide) rfl (fun ls hl => ?_)
  obtain ⟨v15, S16, hL, hf⟩ := bd2_some hf
  refine wx_H_pricesInto_L4 hc hR hml N N _ _ _ _ _ _ _ hL hw (lv_sub hl [2, 3, 1, 0] rfl) (fun H locs ls hw hl => ?_)
  refine lv_iload_n hx hb dX1_pricesInto_65 rfl (lv_at hl 0 rfl) ?_
  obtain ⟨rfl, rfl⟩ := pr2_some hf
  exact hQ _ _ _ _ dX1_pricesInto_66 hw
def xf_H_allPrices_L14 (N : Nat) (c5 : Int32) : Nat → xS → Int32 → Int32 → Option (Int32 × xS)
  | 0, _, _, _ => none
  | n + 1, S7, v4, v6 => (if ok c5 6 then (if c5.toNatClampNeg < S7.2.2.1 then (if (S7.1 56 c5.toNatClampNeg) ≤ v6 then some (v4, S7) else (bd2 (xf_H_priceOf N S7 c5 v6) fun v10 S11 => xf_H_allPrices_L14 N c5 n S11 (v4 + v10) (v6 + 1))) else none) else none)
set_option maxRecDepth 100000 in
theorem wx_H_allPrices_L14 {p : Program} {l : Launch} {e : Env} {R : Room} {s : State} {m : MethodId} {args : Array Value} {below : List Frame} {meth : Method} {c : Code} {Q : State → Prop} {g : xG} {A : Nat → Prop} {H0 : Heap} (hc : qC RX1 cX1_allPrices p s m args c) (hR : qRoom R 8) (hml : c.maxLocals = 4) (N : Nat) (c5 : Int32) : ∀ (n : Nat) (S7 : xS) (v4 : Int32) (v6 : Int32) (X : Int32 × xS) (H : Heap) (locs : List Loc) (ls : Array Slot), xf_H_allPrices_L14 N c5 n S7 v4 v6 = some X → xI g A H0 s S7 H locs → lv_has ls 4 [(0, .ref (xr g 1)), (1, .int v4), (2, .int c5), (3, .int v6)] → (∀ (H : Heap) (locs : List Loc) (ls : Array Slot), xI g A H0 s X.2 H locs → lv_has ls 4 [(0, .ref (xr g 1)), (1, .int X.1), (2, .int c5)] → W p l e R s m args below meth c H locs 0 0 Q (F0 m 47 ls [])) → W p l e R s m args below meth c H locs 0 0 Q (F0 m 14 ls []) := by
  have hx := hc.1
  have hb := hc.2.1
  intro n
  induction n with
  | zero => intro _ _ _ X H locs ls hf; exact nomatch (show none = some X from hf)
  | succ n ih =>
    intro S7 v4 v6 X H locs ls hf hw hl kx
    rw [xf_H_allPrices_L14] at hf
    refine lv_iload_n hx hb dX1_allPrices_14 rfl (lv_at hl 3 rfl) ?_
    refine lv_aload_n hx hb dX1_allPrices_15 rfl (lv_at hl 0 rfl) ?_
    refine x_g_hall_rows hc hw fl_1_23 dX1_allPrices_16 ?_
    refine lv_iload_n hx hb dX1_allPrices_19 rfl (lv_at hl 2 rfl) ?_
    obtain ⟨hi8, hf⟩ := gd_some hf
    obtain ⟨hr9, hf⟩ := gd_some hf
    refine x_l_rows hc hw (ok_in hi8) hr9 dX1_allPrices_20 ?_
    refine x_rg_seats hc hw hr9 fl_1_86 dX1_allPrices_21 ?_
    refine lv_icmp_ge (tgt := 47) hx hb dX1_allPrices_24 (by decide) (fun cn17 => ?_) (fun cn17 => ?_)
    · have hf := (if_pos cn17).symm.trans hf
      obtain rfl := Option.some.inj hf
      exact kx _ _ _ hw (lv_sub hl [0, 1, 2] rfl)
    · have hf := (if_neg cn17).symm.trans hf
      refine lv_iload_n hx hb dX1_allPrices_27 rfl (lv_at hl 1 rfl) ?_
      refine lv_aload_n hx hb dX1_allPrices_28 rfl (lv_at hl 0 rfl) ?_
      refine lv_aload_n hx hb dX1_allPrices_29 rfl (lv_at hl 0 rfl) ?_
      refine x_g_hall_rows hc hw fl_1_23 dX1_allPrices_30 ?_
      refine lv_iload_n hx hb dX1_allPrices_33 rfl (lv_at hl 2 rfl) ?_
      refine x_l_rows hc hw (ok_in hi8) hr9 dX1_allPrices_34 ?_
      refine lv_iload_n hx hb dX1_allPrices_35 rfl (lv_at hl 3 rfl) ?_
      obtain ⟨v10, S11, hcall, hf⟩ := bd2_some hf
      refine x_cvi (As := [.ref (xr g (100 + 2 * c5.toNatClampNeg)), .int v6]) (rest := [.int v4]) hc hw hR (hml.trans hl.1.symm) (cx_H_priceOf l N S7 c5 v6 v10 S11 hcall) xq_1_H_priceOf (x_recv_hall hw) (by decide) rfl rfl rfl (Nat.le_of_ble_eq_true rfl) dX1_allPrices_36 (fun H locs hw => ?_) ⟨Nat.zero_le _, Nat.zero_le _⟩
      refine lv_iadd hx hb dX1_allPrices_39 ?_
      refine lv_istore_n (lv' := [(1, .int (v4 + v10)), (0, .ref (xr g 1)), (2, .int c5), (3, .int v6)]) hx hb dX1_allPrices_40 rfl hl (by decide) rfl (fun ls hl => ?_)
      refine lv_iinc (lv' := [(3, .int (v6 + 1)), (1, .int (v4 + v10)), (0, .ref (xr g 1)), (2, .int c5)]) hx hb dX1_allPrices_41 hl (k := 3) rfl rfl (by decide) rfl (fun ls hl => ?_)
      refine lv_goto (tgt := 14) hx hb dX1_allPrices_44 (by decide) ?_
      exact ih _ _ _ X _ _ _ hf hw (lv_sub hl [2, 1, 3, 0] rfl) kx
def xf_H_allPrices_L4 (N : Nat) : Nat → xS → Int32 → Int32 → Option (Int32 × xS)
  | 0, _, _, _ => none
  | n + 1, S3, v1, v2 => (if (S3.1 16 0) ≤ v2 then some (v1, S3) else (bd2 (xf_H_allPrices_L14 N v2 N S3 v1 0) fun v12 S13 => xf_H_allPrices_L4 N n S13 v12 (v2 + 1)))
set_option maxRecDepth 100000 in
theorem wx_H_allPrices_L4 {p : Program} {l : Launch} {e : Env} {R : Room} {s : State} {m : MethodId} {args : Array Value} {below : List Frame} {meth : Method} {c : Code} {Q : State → Prop} {g : xG} {A : Nat → Prop} {H0 : Heap} (hc : qC RX1 cX1_allPrices p s m args c) (hR : qRoom R 8) (hml : c.maxLocals = 4) (N : Nat) : ∀ (n : Nat) (S3 : xS) (v1 : Int32) (v2 : Int32) (X : Int32 × xS) (H : Heap) (locs : List Loc) (ls : Array Slot), xf_H_allPrices_L4 N n S3 v1 v2 = some X → xI g A H0 s S3 H locs → lv_has ls 4 [(0, .ref (xr g 1)), (1, .int v1), (2, .int v2)] → (∀ (H : Heap) (locs : List Loc) (ls : Array Slot), xI g A H0 s X.2 H locs → lv_has ls 4 [(1, .int X.1)] → W p l e R s m args below meth c H locs 0 0 Q (F0 m 53 ls [])) → W p l e R s m args below meth c H locs 0 0 Q (F0 m 4 ls []) := by
  have hx := hc.1
  have hb := hc.2.1
  intro n
  induction n with
  | zero => intro _ _ _ X H locs ls hf; exact nomatch (show none = some X from hf)
  | succ n ih =>
    intro S3 v1 v2 X H locs ls hf hw hl kx
    rw [xf_H_allPrices_L4] at hf
    refine lv_iload_n hx hb dX1_allPrices_4 rfl (lv_at hl 2 rfl) ?_
    refine lv_aload_n hx hb dX1_allPrices_5 rfl (lv_at hl 0 rfl) ?_
    refine x_g_hall_rowCount hc hw fl_1_42 dX1_allPrices_6 ?_
    refine lv_icmp_ge (tgt := 53) hx hb dX1_allPrices_9 (by decide) (fun cn16 => ?_) (fun cn16 => ?_)
    · have hf := (if_pos cn16).symm.trans hf
      obtain rfl := Option.some.inj hf
      exact kx _ _ _ hw (lv_sub hl [1] rfl)
    · have hf := (if_neg cn16).symm.trans hf
      refine lv_iconst (v := 0) hx hb dX1_allPrices_12 (by decide) ?_
      refine lv_istore_n (lv' := [(3, .int 0), (0, .ref (xr g 1)), (1, .int v1), (2, .int v2)]) hx hb dX1_allPrices_13 rfl hl (by decide) rfl (fun ls hl => ?_)
      obtain ⟨v12, S13, hL, hf⟩ := bd2_some hf
      refine wx_H_allPrices_L14 hc hR hml N v2 N _ _ _ _ _ _ _ hL hw (lv_sub hl [1, 2, 3, 0] rfl) (fun H locs ls hw hl => ?_)
      refine lv_iinc (lv' := [(2, .int (v2 + 1)), (0, .ref (xr g 1)), (1, .int v12)]) hx hb dX1_allPrices_47 hl (k := 2) rfl rfl (by decide) rfl (fun ls hl => ?_)
      refine lv_goto (tgt := 4) hx hb dX1_allPrices_50 (by decide) ?_
      exact ih _ _ _ X _ _ _ hf hw (lv_sub hl [1, 2, 0] rfl) kx
def xf_H_allPrices (N : Nat) (S : xS) : Option (Int32 × xS) := (bd2 (xf_H_allPrices_L4 N N S 0 0) fun v14 S15 => some (v14, S15))
set_option maxRecDepth 100000 in
theorem cx_H_allPrices (l : Launch) (N : Nat) (S : xS) (res : Int32) (S1 : xS) (hf : xf_H_allPrices N S = some (res, S1)) : xMi l yX1_allPrices cX1_allPrices 4 .int 8 (fun g => [.ref (xr g 1)]) S res S1 := by
  refine xMi_of (own := RX1) (by decide) rfl rfl (fun g => Nat.le_of_ble_eq_true rfl) ?_
  intro p e R s m args below meth c Q g A H0 H locs ls hc hR hml hw hl hQ
  have hl : lv_has ls 4 [(0, .ref (xr g 1))] := hl
  have hx := hc.1
  have hb := hc.2.1
  unfold xf_H_allPrices at hf
  refine lv_iconst (v := 0) hx hb dX1_allPrices_0 (by decide) ?_
  refine lv_istore_n (lv' := [(1, .int 0), (0, .ref (xr g 1))]) hx hb dX1_allPrices_1 rfl hl (by decide) rfl (fun ls hl => ?_)
  refine lv_iconst (v := 0) hx hb dX1_allPrices_2 (by decide) ?_
  refine lv_istore_n (lv' := [(2, .int 0), (1, .int 0), (0, .ref (xr g 1))]) hx hb dX1_allPrices_3 rfl hl (by decide) rfl (fun ls hl => ?_)
  obtain ⟨v14, S15, hL, hf⟩ := bd2_some hf
  refine wx_H_allPrices_L4 hc hR hml N N _ _ _ _ _ _ _ hL hw (lv_sub hl [2, 1, 0] rfl) (fun H locs ls hw hl => ?_)
  refine lv_iload_n hx hb dX1_allPrices_53 rfl (lv_at hl 0 rfl) ?_
  obtain ⟨rfl, rfl⟩ := pr2_some hf
  exact hQ _ _ _ _ dX1_allPrices_54 hw
def xf_R_advance_L9 (N : Nat) : Nat → xS → Option (xS)
  | 0, _ => none
  | n + 1, S1 => (if (S1.1 40 0) ≤ (S1.1 41 0) then some S1 else (if (S1.1 39 0) < 0 then none else (if ok (S1.1 41 0) 160 then (bm0 (if (S1.1 3 (S1.1 41 0).toNatClampNeg) = 32 then some (.inr ()) else (if (S1.1 3 (S1.1 41 0).toNatClampNeg) = 10 then some (.inr ()) else some (.inl (some S1)))) fun _ => xf_R_advance_L9 N n (xs S1 41 0 ((S1.1 41 0) + 1))) else none)))
set_option maxRecDepth 100000 in
theorem wx_R_advance_L9 {p : Program} {l : Launch} {e : Env} {R : Room} {s : State} {m : MethodId} {args : Array Value} {below : List Frame} {meth : Method} {c : Code} {Q : State → Prop} {g : xG} {A : Nat → Prop} {H0 : Heap} (hc : qC RX7 cX7_advance p s m args c) (hR : qRoom R 8) (hml : c.maxLocals = 2) (N : Nat) : ∀ (n : Nat) (S1 : xS) (X : xS) (H : Heap) (locs : List Loc) (ls : Array Slot), xf_R_advance_L9 N n S1 = some X → xI g A H0 s S1 H locs → lv_has ls 2 [(0, .ref (xr g 3))] → (∀ (H : Heap) (locs : List Loc) (ls : Array Slot), xI g A H0 s X H locs → lv_has ls 2 [(0, .ref (xr g 3))] → W p l e R s m args below meth c H locs 0 0 Q (F0 m 61 ls [])) → W p l e R s m args below meth c H locs 0 0 Q (F0 m 9 ls []) := by
  have hx := hc.1
  have hb := hc.2.1
  intro n
  induction n with
  | zero => intro _ X H locs ls hf; exact nomatch (show none = some X from hf)
  | succ n ih =>
    intro S1 X H locs ls hf hw hl kx
    rw [xf_R_advance_L9] at hf
    refine lv_aload_n hx hb dX7_advance_9 rfl (lv_at hl 0 rfl) ?_
    refine x_g_reader_next hc hw fl_7_22 dX7_advance_10 ?_
    refine lv_aload_n hx hb dX7_advance_13 rfl (lv_at hl 0 rfl) ?_
    refine x_g_reader_size hc hw fl_7_19 dX7_advance_14 ?_
    refine lv_icmp_ge (tgt := 61) hx hb dX7_advance_17 (by decide) (fun cn11 => ?_) (fun cn11 => ?_)
    · have hf := (if_pos cn11).symm.trans hf
      obtain rfl := Option.some.inj hf
      exact kx _ _ _ hw (lv_sub hl [0] rfl)
    · have hf := (if_neg cn11).symm.trans hf
      refine lv_aload_n hx hb dX7_advance_20 rfl (lv_at hl 0 rfl) ?_
      refine x_g_reader_tape hc hw fl_7_15 dX7_advance_21 ?_
      refine x_splitb (fun cn2 => ?_) (fun cn2 => ?_)
      · have hf := (if_pos cn2).symm.trans hf
        refine lv_aload_n hx hb dX7_advance_24 rfl (lv_at hl 0 rfl) ?_
        refine x_g_reader_next hc hw fl_7_22 dX7_advance_25 ?_
        exact nomatch hf
      · have hf := (if_neg cn2).symm.trans hf
        refine lv_aload_n hx hb dX7_advance_24 rfl (lv_at hl 0 rfl) ?_
        refine x_g_reader_next hc hw fl_7_22 dX7_advance_25 ?_
        obtain ⟨hi3, hf⟩ := gd_some hf
        refine x_l_this_tape hc hw (ok_in hi3) dX7_advance_28 ?_
        refine lv_bipush (v := 32) hx hb dX7_advance_29 (by decide) ?_
        obtain ⟨Y, hX12, hf⟩ := bm0_some hf
        have kJ13 : Y = .inr () → ∀ (H : Heap) (locs : List Loc) (ls : Array Slot), xI g A H0 s S1 H locs → lv_has ls 2 [(0, .ref (xr g 3))] → W p l e R s m args below meth c H locs 0 0 Q (F0 m 48 ls []) := by
          intro  hY H locs ls hw hl
          subst hY
          have hf := bc0_r hf
          refine lv_aload_n hx hb dX7_advance_48 rfl (lv_at hl 0 rfl) ?_
          refine lv_dup hx hb dX7_advance_49 rfl ?_
          refine x_g_reader_next hc hw fl_7_22 dX7_advance_50 ?_
          refine lv_iconst (v := 1) hx hb dX7_advance_53 (by decide) ?_
          refine lv_iadd hx hb dX7_advance_54 ?_
          refine x_p_reader_next hc hw fl_7_22 dX7_advance_55 (fun H locs hw => ?_)
          refine lv_goto (tgt := 9) hx hb dX7_advance_58 (by decide) ?_
          exact ih _ X _ _ _ hf hw (lv_sub hl [0] rfl) kx
        refine lv_icmp_eq (tgt := 48) hx hb dX7_advance_31 (by decide) (fun cn14 => ?_) (fun cn14 => ?_)
        · have hX12 := (if_pos cn14).symm.trans hX12
          exact kJ13 (Option.some.inj hX12).symm _ _ _ hw (lv_sub hl [0] rfl)
        · have hX12 := (if_neg cn14).symm.trans hX12
          refine lv_aload_n hx hb dX7_advance_34 rfl (lv_at hl 0 rfl) ?_
          refine x_g_reader_tape hc hw fl_7_15 dX7_advance_35 ?_
          rw [xbv_pos cn2]
          refine lv_aload_n hx hb dX7_advance_38 rfl (lv_at hl 0 rfl) ?_
          refine x_g_reader_next hc hw fl_7_22 dX7_advance_39 ?_
          refine x_l_this_tape hc hw (ok_in hi3) dX7_advance_42 ?_
          refine lv_bipush (v := 10) hx hb dX7_advance_43 (by decide) ?_
          refine lv_icmp_ne (tgt := 61) hx hb dX7_advance_45 (by decide) (fun cn15 => ?_) (fun cn15 => ?_)
          · have hX12 := (if_neg cn15).symm.trans hX12
            obtain rfl := Option.some.inj hX12
            have hf := bc0_l hf
            obtain rfl := Option.some.inj hf
            exact kx _ _ _ hw (lv_sub hl [0] rfl)
          · have hX12 := (if_pos cn15).symm.trans hX12
            exact kJ13 (Option.some.inj hX12).symm _ _ _ hw (lv_sub hl [0] rfl)
def xf_R_advance (N : Nat) (S : xS) : Option (xS) := (if (S.1 38 0) = (-1) then (bd1 (xf_R_advance_L9 N N S) fun S4 => (bd1 (if ((xs S4 42 0 (S4.1 41 0)).1 40 0) ≤ ((xs S4 42 0 (S4.1 41 0)).1 41 0) then some 0 else (if ((xs S4 42 0 (S4.1 41 0)).1 39 0) < 0 then none else (if ok ((xs S4 42 0 (S4.1 41 0)).1 41 0) 160 then some ((xs S4 42 0 (S4.1 41 0)).1 3 ((xs S4 42 0 (S4.1 41 0)).1 41 0).toNatClampNeg) else none))) fun v7 => (if ((xs S4 42 0 (S4.1 41 0)).1 41 0) < ((xs S4 42 0 (S4.1 41 0)).1 40 0) then (if (xf_R_isLetter v7) = true then (bd1 (xf_R_readWord N (xs S4 42 0 (S4.1 41 0))) fun S9 => some S9) else (if (xf_R_isDigit v7) = true then (bd1 (xf_R_readNumber N (xs S4 42 0 (S4.1 41 0))) fun S8 => some S8) else (if (xf_R_isSign v7) = true then some (xs (xs (xs S4 42 0 (S4.1 41 0)) 41 0 (((xs S4 42 0 (S4.1 41 0)).1 41 0) + 1)) 43 0 v7) else some (xs (xs (xs S4 42 0 (S4.1 41 0)) 41 0 (((xs S4 42 0 (S4.1 41 0)).1 41 0) + 1)) 43 0 10)))) else some (xs (xs S4 42 0 (S4.1 41 0)) 43 0 0)))) else some S)
set_option maxRecDepth 100000 in
theorem cx_R_advance (l : Launch) (N : Nat) (S : xS) (S1 : xS) (hf : xf_R_advance N S = some S1) : xMv l yX7_advance cX7_advance 2 8 (fun g => [.ref (xr g 3)]) S S1 := by
  refine xMv_of (own := RX7) (by decide) rfl (fun g => Nat.le_of_ble_eq_true rfl) ?_
  intro p e R s m args below meth c Q g A H0 H locs ls hc hR hml hw hl hQ
  have hl : lv_has ls 2 [(0, .ref (xr g 3))] := hl
  have hx := hc.1
  have hb := hc.2.1
  unfold xf_R_advance at hf
  refine lv_aload_n hx hb dX7_advance_0 rfl (lv_at hl 0 rfl) ?_
  refine x_g_reader_fault hc hw fl_7_11 dX7_advance_1 ?_
  refine lv_iconst (v := (-1)) hx hb dX7_advance_4 (by decide) ?_
  refine lv_icmp_eq (tgt := 9) hx hb dX7_advance_5 (by decide) (fun cn10 => ?_) (fun cn10 => ?_)
  · have hf := (if_pos cn10).symm.trans hf
    obtain ⟨S4, hL, hf⟩ := bd1_some hf
    refine wx_R_advance_L9 hc hR hml N N _ _ _ _ _ hL hw (lv_sub hl [0] rfl) (fun H locs ls hw hl => ?_)
    refine lv_aload_n hx hb dX7_advance_61 rfl (lv_at hl 0 rfl) ?_
    refine lv_aload_n hx hb dX7_advance_62 rfl (lv_at hl 0 rfl) ?_
    refine x_g_reader_next hc hw fl_7_22 dX7_advance_63 ?_
    refine x_p_reader_start hc hw fl_7_25 dX7_advance_66 (fun H locs hw => ?_)
    refine lv_aload_n hx hb dX7_advance_69 rfl (lv_at hl 0 rfl) ?_
    refine x_g_reader_next hc hw fl_7_22 dX7_advance_70 ?_
    refine lv_aload_n hx hb dX7_advance_73 rfl (lv_at hl 0 rfl) ?_
    refine x_g_reader_size hc hw fl_7_19 dX7_advance_74 ?_
    obtain ⟨v7, hX21, hf⟩ := bd1_some hf
    have kJ22 : ∀ (H : Heap) (locs : List Loc) (ls : Array Slot), xI g A H0 s (xs S4 42 0 (S4.1 41 0)) H locs → lv_has ls 2 [(0, .ref (xr g 3))] → W p l e R s m args below meth c H locs 0 0 Q (F0 m 93 ls [.int v7]) := by
      intro H locs ls hw hl
      refine lv_istore_n (lv' := [(1, .int v7), (0, .ref (xr g 3))]) hx hb dX7_advance_93 rfl hl (by decide) rfl (fun ls hl => ?_)
      refine lv_aload_n hx hb dX7_advance_94 rfl (lv_at hl 1 rfl) ?_
      refine x_g_reader_next hc hw fl_7_22 dX7_advance_95 ?_
      refine lv_aload_n hx hb dX7_advance_98 rfl (lv_at hl 1 rfl) ?_
      refine x_g_reader_size hc hw fl_7_19 dX7_advance_99 ?_
      refine lv_icmp_lt (tgt := 113) hx hb dX7_advance_102 (by decide) (fun cn17 => ?_) (fun cn17 => ?_)
      · have hf := (if_pos cn17).symm.trans hf
        refine lv_iload_n hx hb dX7_advance_113 rfl (lv_at hl 0 rfl) ?_
        refine x_csi (As := [.int v7]) (rest := []) hc hw hR (hml.trans hl.1.symm) (cx_R_isLetter l (xs S4 42 0 (S4.1 41 0)) v7 _ rfl) xq_7_R_isLetter (by decide) rfl rfl rfl (Nat.le_of_ble_eq_true rfl) dX7_advance_114 (fun H locs hw => ?_) ⟨Nat.zero_le _, Nat.zero_le _⟩
        refine lv_if_eqb (tgt := 127) hx hb dX7_advance_117 (by decide) (fun cn18 => ?_) (fun cn18 => ?_)
        · have hf := (if_neg cn18).symm.trans hf
          refine lv_iload_n hx hb dX7_advance_127 rfl (lv_at hl 0 rfl) ?_
          refine x_csi (As := [.int v7]) (rest := []) hc hw hR (hml.trans hl.1.symm) (cx_R_isDigit l (xs S4 42 0 (S4.1 41 0)) v7 _ rfl) xq_7_R_isDigit (by decide) rfl rfl rfl (Nat.le_of_ble_eq_true rfl) dX7_advance_128 (fun H locs hw => ?_) ⟨Nat.zero_le _, Nat.zero_le _⟩
          refine lv_if_eqb (tgt := 141) hx hb dX7_advance_131 (by decide) (fun cn19 => ?_) (fun cn19 => ?_)
          · have hf := (if_neg cn19).symm.trans hf
            refine lv_aload_n hx hb dX7_advance_141 rfl (lv_at hl 1 rfl) ?_
            refine lv_dup hx hb dX7_advance_142 rfl ?_
            refine x_g_reader_next hc hw fl_7_22 dX7_advance_143 ?_
            refine lv_iconst (v := 1) hx hb dX7_advance_146 (by decide) ?_
            refine lv_iadd hx hb dX7_advance_147 ?_
            refine x_p_reader_next hc hw fl_7_22 dX7_advance_148 (fun H locs hw => ?_)
            refine lv_aload_n hx hb dX7_advance_151 rfl (lv_at hl 1 rfl) ?_
            refine lv_iload_n hx hb dX7_advance_152 rfl (lv_at hl 0 rfl) ?_
            refine x_csi (As := [.int v7]) (rest := [.ref (xr g 3)]) hc hw hR (hml.trans hl.1.symm) (cx_R_isSign l (xs (xs S4 42 0 (S4.1 41 0)) 41 0 (((xs S4 42 0 (S4.1 41 0)).1 41 0) + 1)) v7 _ rfl) xq_7_R_isSign (by decide) rfl rfl rfl (Nat.le_of_ble_eq_true rfl) dX7_advance_153 (fun H locs hw => ?_) ⟨Nat.zero_le _, Nat.zero_le _⟩
            refine lv_if_eqb (tgt := 163) hx hb dX7_advance_156 (by decide) (fun cn20 => ?_) (fun cn20 => ?_)
            · have hf := (if_neg cn20).symm.trans hf
              refine lv_bipush (v := 10) hx hb dX7_advance_163 (by decide) ?_
              refine x_p_reader_token hc hw fl_7_28 dX7_advance_165 (fun H locs hw => ?_)
              obtain rfl := Option.some.inj hf
              exact hQ _ _ _ _ dX7_advance_168 hw
            · have hf := (if_pos cn20).symm.trans hf
              refine lv_iload_n hx hb dX7_advance_159 rfl (lv_at hl 0 rfl) ?_
              refine lv_goto (tgt := 165) hx hb dX7_advance_160 (by decide) ?_
              refine x_p_reader_token hc hw fl_7_28 dX7_advance_165 (fun H locs hw => ?_)
              obtain rfl := Option.some.inj hf
              exact hQ _ _ _ _ dX7_advance_168 hw
          · have hf := (if_pos cn19).symm.trans hf
            refine lv_aload_n hx hb dX7_advance_134 rfl (lv_at hl 1 rfl) ?_
            obtain ⟨S8, hcall, hf⟩ := bd1_some hf
            refine x_cvv (As := []) (rest := []) hc hw hR (hml.trans hl.1.symm) (cx_R_readNumber l N (xs S4 42 0 (S4.1 41 0)) S8 hcall) xq_7_R_readNumber (x_recv_reader hw) (by decide) rfl rfl rfl (Nat.le_of_ble_eq_true rfl) dX7_advance_135 (fun H locs hw => ?_) ⟨Nat.zero_le _, Nat.zero_le _⟩
            refine lv_goto (tgt := 168) hx hb dX7_advance_138 (by decide) ?_
            obtain rfl := Option.some.inj hf
            exact hQ _ _ _ _ dX7_advance_168 hw
        · have hf := (if_pos cn18).symm.trans hf
          refine lv_aload_n hx hb dX7_advance_120 rfl (lv_at hl 1 rfl) ?_
          obtain ⟨S9, hcall, hf⟩ := bd1_some hf
          refine x_cvv (As := []) (rest := []) hc hw hR (hml.trans hl.1.symm) (cx_R_readWord l N (xs S4 42 0 (S4.1 41 0)) S9 hcall) xq_7_R_readWord (x_recv_reader hw) (by decide) rfl rfl rfl (Nat.le_of_ble_eq_true rfl) dX7_advance_121 (fun H locs hw => ?_) ⟨Nat.zero_le _, Nat.zero_le _⟩
          refine lv_goto (tgt := 168) hx hb dX7_advance_124 (by decide) ?_
          obtain rfl := Option.some.inj hf
          exact hQ _ _ _ _ dX7_advance_168 hw
      · have hf := (if_neg cn17).symm.trans hf
        refine lv_aload_n hx hb dX7_advance_105 rfl (lv_at hl 1 rfl) ?_
        refine lv_iconst (v := 0) hx hb dX7_advance_106 (by decide) ?_
        refine x_p_reader_token hc hw fl_7_28 dX7_advance_107 (fun H locs hw => ?_)
        refine lv_goto (tgt := 168) hx hb dX7_advance_110 (by decide) ?_
        obtain rfl := Option.some.inj hf
        exact hQ _ _ _ _ dX7_advance_168 hw
    refine lv_icmp_ge (tgt := 92) hx hb dX7_advance_77 (by decide) (fun cn23 => ?_) (fun cn23 => ?_)
    · have hX21 := (if_pos cn23).symm.trans hX21
      refine lv_iconst (v := 0) hx hb dX7_advance_92 (by decide) ?_
      obtain rfl := Option.some.inj hX21
      exact kJ22 _ _ _ hw (lv_sub hl [0] rfl)
    · have hX21 := (if_neg cn23).symm.trans hX21
      refine lv_aload_n hx hb dX7_advance_80 rfl (lv_at hl 0 rfl) ?_
      refine x_g_reader_tape hc hw fl_7_15 dX7_advance_81 ?_
      refine x_splitb (fun cn5 => ?_) (fun cn5 => ?_)
      · have hX21 := (if_pos cn5).symm.trans hX21
        refine lv_aload_n hx hb dX7_advance_84 rfl (lv_at hl 0 rfl) ?_
        refine x_g_reader_next hc hw fl_7_22 dX7_advance_85 ?_
        exact nomatch hX21
      · have hX21 := (if_neg cn5).symm.trans hX21
        refine lv_aload_n hx hb dX7_advance_84 rfl (lv_at hl 0 rfl) ?_
        refine x_g_reader_next hc hw fl_7_22 dX7_advance_85 ?_
        obtain ⟨hi6, hX21⟩ := gd_some hX21
        refine x_l_this_tape hc hw (ok_in hi6) dX7_advance_88 ?_
        refine lv_goto (tgt := 93) hx hb dX7_advance_89 (by decide) ?_
        obtain rfl := Option.some.inj hX21
        exact kJ22 _ _ _ hw (lv_sub hl [0] rfl)
  · have hf := (if_neg cn10).symm.trans hf
    obtain rfl := Option.some.inj hf
    exact hQ _ _ _ _ dX7_advance_8 hw
def xf_X_all (N : Nat) (S : xS) (a1 : Int32) : Option (Int32 × xS) := (if a1 = 0 then (bd2 (xf_H_allPrices N S) fun v1 S2 => some (v1, S2)) else (if a1 = 1 then (bd2 (xf_H_allWorth N S) fun v3 S4 => some (v3, S4)) else (if a1 = 2 then (bd2 (xf_H_howManySee N S (((1 : Int32) <<< ((S.1 17 0) &&& 31)) - 1)) fun v5 S6 => some (v5, S6)) else (if a1 = 3 then (bd2 (xf_H_howManySee N S 0) fun v7 S8 => some (v7, S8)) else some ((-2), S)))))
set_option maxRecDepth 100000 in
theorem cx_X_all (l : Launch) (N : Nat) (S : xS) (a1 : Int32) (res : Int32) (S1 : xS) (hf : xf_X_all N S a1 = some (res, S1)) : xMi l yX11_all cX11_all 2 .int 9 (fun g => [.ref (xr g 0), .int a1]) S res S1 := by
  refine xMi_of (own := RX11) (by decide) rfl rfl (fun g => Nat.le_of_ble_eq_true rfl) ?_
  intro p e R s m args below meth c Q g A H0 H locs ls hc hR hml hw hl hQ
  have hl : lv_has ls 2 [(0, .ref (xr g 0)), (1, .int a1)] := hl
  have hx := hc.1
  have hb := hc.2.1
  unfold xf_X_all at hf
  refine lv_iload_n hx hb dX11_all_0 rfl (lv_at hl 1 rfl) ?_
  by_cases cn9 : a1 = 0
  · have hf := (if_pos cn9).symm.trans hf
    refine lv_tableIn (tgt := 32) (off := 31) hx hb dX11_all_1 (by rw [cn9]; decide) (by rw [cn9]; decide) (by rw [cn9]; decide) (by decide) ?_
    refine lv_aload_n hx hb dX11_all_32 rfl (lv_at hl 0 rfl) ?_
    refine x_g_this_hall hc hw fl_11_10 dX11_all_33 ?_
    obtain ⟨v1, S2, hcall, hf⟩ := bd2_some hf
    refine x_cvi (As := []) (rest := []) hc hw hR (hml.trans hl.1.symm) (cx_H_allPrices l N S v1 S2 hcall) xq_11_H_allPrices (x_recv_hall hw) (by decide) rfl rfl rfl (Nat.le_of_ble_eq_true rfl) dX11_all_36 (fun H locs hw => ?_) ⟨Nat.zero_le _, Nat.zero_le _⟩
    obtain ⟨rfl, rfl⟩ := pr2_some hf
    exact hQ _ _ _ _ dX11_all_39 hw
  have hf := (if_neg cn9).symm.trans hf
  by_cases cn10 : a1 = 1
  · have hf := (if_pos cn10).symm.trans hf
    refine lv_tableIn (tgt := 40) (off := 39) hx hb dX11_all_1 (by rw [cn10]; decide) (by rw [cn10]; decide) (by rw [cn10]; decide) (by decide) ?_
    refine lv_aload_n hx hb dX11_all_40 rfl (lv_at hl 0 rfl) ?_
    refine x_g_this_hall hc hw fl_11_10 dX11_all_41 ?_
    obtain ⟨v3, S4, hcall, hf⟩ := bd2_some hf
    refine x_cvi (As := []) (rest := []) hc hw hR (hml.trans hl.1.symm) (cx_H_allWorth l N S v3 S4 hcall) xq_11_H_allWorth (x_recv_hall hw) (by decide) rfl rfl rfl (Nat.le_of_ble_eq_true rfl) dX11_all_44 (fun H locs hw => ?_) ⟨Nat.zero_le _, Nat.zero_le _⟩
    obtain ⟨rfl, rfl⟩ := pr2_some hf
    exact hQ _ _ _ _ dX11_all_47 hw
  have hf := (if_neg cn10).symm.trans hf
  by_cases cn11 : a1 = 2
  · have hf := (if_pos cn11).symm.trans hf
    refine lv_tableIn (tgt := 48) (off := 47) hx hb dX11_all_1 (by rw [cn11]; decide) (by rw [cn11]; decide) (by rw [cn11]; decide) (by decide) ?_
    refine lv_aload_n hx hb dX11_all_48 rfl (lv_at hl 0 rfl) ?_
    refine x_g_this_hall hc hw fl_11_10 dX11_all_49 ?_
    refine lv_iconst (v := 1) hx hb dX11_all_52 (by decide) ?_
    refine lv_aload_n hx hb dX11_all_53 rfl (lv_at hl 0 rfl) ?_
    refine x_g_this_hall hc hw fl_11_10 dX11_all_54 ?_
    refine x_g_hall_pointCount hc hw fl_11_187 dX11_all_57 ?_
    refine lv_ishl hx hb dX11_all_60 ?_
    refine lv_iconst (v := 1) hx hb dX11_all_61 (by decide) ?_
    refine lv_isub hx hb dX11_all_62 ?_
    obtain ⟨v5, S6, hcall, hf⟩ := bd2_some hf
    refine x_cvi (As := [.int (((1 : Int32) <<< ((S.1 17 0) &&& 31)) - 1)]) (rest := []) hc hw hR (hml.trans hl.1.symm) (cx_H_howManySee l N S (((1 : Int32) <<< ((S.1 17 0) &&& 31)) - 1) v5 S6 hcall) xq_11_H_howManySee (x_recv_hall hw) (by decide) rfl rfl rfl (Nat.le_of_ble_eq_true rfl) dX11_all_63 (fun H locs hw => ?_) ⟨Nat.zero_le _, Nat.zero_le _⟩
    obtain ⟨rfl, rfl⟩ := pr2_some hf
    exact hQ _ _ _ _ dX11_all_66 hw
  have hf := (if_neg cn11).symm.trans hf
  by_cases cn12 : a1 = 3
  · have hf := (if_pos cn12).symm.trans hf
    refine lv_tableIn (tgt := 67) (off := 66) hx hb dX11_all_1 (by rw [cn12]; decide) (by rw [cn12]; decide) (by rw [cn12]; decide) (by decide) ?_
    refine lv_aload_n hx hb dX11_all_67 rfl (lv_at hl 0 rfl) ?_
    refine x_g_this_hall hc hw fl_11_10 dX11_all_68 ?_
    refine lv_iconst (v := 0) hx hb dX11_all_71 (by decide) ?_
    obtain ⟨v7, S8, hcall, hf⟩ := bd2_some hf
    refine x_cvi (As := [.int 0]) (rest := []) hc hw hR (hml.trans hl.1.symm) (cx_H_howManySee l N S 0 v7 S8 hcall) xq_11_H_howManySee (x_recv_hall hw) (by decide) rfl rfl rfl (Nat.le_of_ble_eq_true rfl) dX11_all_72 (fun H locs hw => ?_) ⟨Nat.zero_le _, Nat.zero_le _⟩
    obtain ⟨rfl, rfl⟩ := pr2_some hf
    exact hQ _ _ _ _ dX11_all_75 hw
  have hf := (if_neg cn12).symm.trans hf
  refine lv_tableOut (tgt := 76) hx hb dX11_all_1 (by have hcn9 := sw_ne cn9 (k := 0) (by decide); have hcn10 := sw_ne cn10 (k := 1) (by decide); have hcn11 := sw_ne cn11 (k := 2) (by decide); have hcn12 := sw_ne cn12 (k := 3) (by decide); omega) (by decide) ?_
  refine lv_bipush (v := (-2)) hx hb dX11_all_76 (by decide) ?_
  obtain ⟨rfl, rfl⟩ := pr2_some hf
  exact hQ _ _ _ _ dX11_all_78 hw
def xf_X_swap (N : Nat) (S : xS) (a1 : Int32) (a2 : Int32) (a3 : Int32) (a4 : Int32) : Option (Int32 × xS) := (bd1 (xf_H_rowWith N S a1 a2) fun v1 => (if v1 < 0 then (bd1 (xf_H_rowWith N S a3 a4) fun v3 => (if v3 < 0 then some ((-1000000), S) else some ((-1000000), S))) else (bd1 (xf_H_rowWith N S a3 a4) fun v5 => (if v5 < 0 then some ((-1000000), S) else (bd2 (xf_H_allWorth N S) fun v7 S8 => (bd2 (xf_X_worthSwapped N S8 v1 a2 v5 a4) fun v9 S10 => some (v9 - v7, S10)))))))
set_option maxRecDepth 100000 in
theorem cx_X_swap (l : Launch) (N : Nat) (S : xS) (a1 : Int32) (a2 : Int32) (a3 : Int32) (a4 : Int32) (res : Int32) (S1 : xS) (hf : xf_X_swap N S a1 a2 a3 a4 = some (res, S1)) : xMi l yX11_swap cX11_swap 8 .int 9 (fun g => [.ref (xr g 0), .int a1, .int a2, .int a3, .int a4]) S res S1 := by
  refine xMi_of (own := RX11) (by decide) rfl rfl (fun g => Nat.le_of_ble_eq_true rfl) ?_
  intro p e R s m args below meth c Q g A H0 H locs ls hc hR hml hw hl hQ
  have hl : lv_has ls 8 [(0, .ref (xr g 0)), (1, .int a1), (2, .int a2), (3, .int a3), (4, .int a4)] := hl
  have hx := hc.1
  have hb := hc.2.1
  unfold xf_X_swap at hf
  refine lv_aload_n hx hb dX11_swap_0 rfl (lv_at hl 0 rfl) ?_
  refine x_g_this_hall hc hw fl_11_10 dX11_swap_1 ?_
  refine lv_iload_n hx hb dX11_swap_4 rfl (lv_at hl 1 rfl) ?_
  refine lv_iload_n hx hb dX11_swap_5 rfl (lv_at hl 2 rfl) ?_
  obtain ⟨v1, hcall, hf⟩ := bd1_some hf
  refine x_cvr (As := [.int a1, .int a2]) (rest := []) hc hw hR (hml.trans hl.1.symm) (cx_H_rowWith l N S a1 a2 v1 hcall) xq_11_H_rowWith (x_recv_hall hw) (by decide) rfl rfl rfl (Nat.le_of_ble_eq_true rfl) dX11_swap_6 (fun H locs hw => ?_) ⟨Nat.zero_le _, Nat.zero_le _⟩
  refine x_splitr (fun cn2 => ?_) (fun cn2 => ?_)
  · have hf := (if_pos cn2).symm.trans hf
    refine lv_astoreN (lv' := [(5, .null), (0, .ref (xr g 0)), (1, .int a1), (2, .int a2), (3, .int a3), (4, .int a4)]) hx hb dX11_swap_9 hl (by decide) rfl (fun ls hl => ?_)
    refine lv_aload_n hx hb dX11_swap_11 rfl (lv_at hl 1 rfl) ?_
    refine x_g_this_hall hc hw fl_11_10 dX11_swap_12 ?_
    refine lv_iload_n hx hb dX11_swap_15 rfl (lv_at hl 4 rfl) ?_
    refine lv_iload hx hb dX11_swap_16 (lv_at hl 5 rfl) ?_
    obtain ⟨v3, hcall, hf⟩ := bd1_some hf
    refine x_cvr (As := [.int a3, .int a4]) (rest := []) hc hw hR (hml.trans hl.1.symm) (cx_H_rowWith l N S a3 a4 v3 hcall) xq_11_H_rowWith (x_recv_hall hw) (by decide) rfl rfl rfl (Nat.le_of_ble_eq_true rfl) dX11_swap_18 (fun H locs hw => ?_) ⟨Nat.zero_le _, Nat.zero_le _⟩
    refine x_splitr (fun cn4 => ?_) (fun cn4 => ?_)
    · have hf := (if_pos cn4).symm.trans hf
      refine lv_astoreN (lv' := [(6, .null), (5, .null), (0, .ref (xr g 0)), (1, .int a1), (2, .int a2), (3, .int a3), (4, .int a4)]) hx hb dX11_swap_21 hl (by decide) rfl (fun ls hl => ?_)
      refine lv_aloadN hx hb dX11_swap_23 (lv_at hl 1 rfl) ?_
      refine lv_ifnullN (tgt := 33) hx hb dX11_swap_25 (by decide) ?_
      refine lv_ldcw (v := (-1000000)) hx hb hc.2.2.1 (hc.2.2.2 _ (mem_g 1031 (by decide +kernel) rfl)) dX11_swap_33 ?_
      obtain ⟨rfl, rfl⟩ := pr2_some hf
      exact hQ _ _ _ _ dX11_swap_36 hw
    · have hf := (if_neg cn4).symm.trans hf
      refine lv_astore (lv' := [(6, .ref (xr g (100 + 2 * v3.toNatClampNeg))), (5, .null), (0, .ref (xr g 0)), (1, .int a1), (2, .int a2), (3, .int a3), (4, .int a4)]) hx hb dX11_swap_21 hl (by decide) rfl (fun ls hl => ?_)
      refine lv_aloadN hx hb dX11_swap_23 (lv_at hl 1 rfl) ?_
      refine lv_ifnullN (tgt := 33) hx hb dX11_swap_25 (by decide) ?_
      refine lv_ldcw (v := (-1000000)) hx hb hc.2.2.1 (hc.2.2.2 _ (mem_g 1031 (by decide +kernel) rfl)) dX11_swap_33 ?_
      obtain ⟨rfl, rfl⟩ := pr2_some hf
      exact hQ _ _ _ _ dX11_swap_36 hw
  · have hf := (if_neg cn2).symm.trans hf
    refine lv_astore (lv' := [(5, .ref (xr g (100 + 2 * v1.toNatClampNeg))), (0, .ref (xr g 0)), (1, .int a1), (2, .int a2), (3, .int a3), (4, .int a4)]) hx hb dX11_swap_9 hl (by decide) rfl (fun ls hl => ?_)
    refine lv_aload_n hx hb dX11_swap_11 rfl (lv_at hl 1 rfl) ?_
    refine x_g_this_hall hc hw fl_11_10 dX11_swap_12 ?_
    refine lv_iload_n hx hb dX11_swap_15 rfl (lv_at hl 4 rfl) ?_
    refine lv_iload hx hb dX11_swap_16 (lv_at hl 5 rfl) ?_
    obtain ⟨v5, hcall, hf⟩ := bd1_some hf
    refine x_cvr (As := [.int a3, .int a4]) (rest := []) hc hw hR (hml.trans hl.1.symm) (cx_H_rowWith l N S a3 a4 v5 hcall) xq_11_H_rowWith (x_recv_hall hw) (by decide) rfl rfl rfl (Nat.le_of_ble_eq_true rfl) dX11_swap_18 (fun H locs hw => ?_) ⟨Nat.zero_le _, Nat.zero_le _⟩
    refine x_splitr (fun cn6 => ?_) (fun cn6 => ?_)
    · have hf := (if_pos cn6).symm.trans hf
      refine lv_astoreN (lv' := [(6, .null), (5, .ref (xr g (100 + 2 * v1.toNatClampNeg))), (0, .ref (xr g 0)), (1, .int a1), (2, .int a2), (3, .int a3), (4, .int a4)]) hx hb dX11_swap_21 hl (by decide) rfl (fun ls hl => ?_)
      refine lv_aload hx hb dX11_swap_23 (lv_at hl 1 rfl) ?_
      refine lv_ifnull hx hb dX11_swap_25 ?_
      refine lv_aloadN hx hb dX11_swap_28 (lv_at hl 0 rfl) ?_
      refine lv_ifnonnullN hx hb dX11_swap_30 ?_
      refine lv_ldcw (v := (-1000000)) hx hb hc.2.2.1 (hc.2.2.2 _ (mem_g 1031 (by decide +kernel) rfl)) dX11_swap_33 ?_
      obtain ⟨rfl, rfl⟩ := pr2_some hf
      exact hQ _ _ _ _ dX11_swap_36 hw
    · have hf := (if_neg cn6).symm.trans hf
      refine lv_astore (lv' := [(6, .ref (xr g (100 + 2 * v5.toNatClampNeg))), (5, .ref (xr g (100 + 2 * v1.toNatClampNeg))), (0, .ref (xr g 0)), (1, .int a1), (2, .int a2), (3, .int a3), (4, .int a4)]) hx hb dX11_swap_21 hl (by decide) rfl (fun ls hl => ?_)
      refine lv_aload hx hb dX11_swap_23 (lv_at hl 1 rfl) ?_
      refine lv_ifnull hx hb dX11_swap_25 ?_
      refine lv_aload hx hb dX11_swap_28 (lv_at hl 0 rfl) ?_
      refine lv_ifnonnull (tgt := 37) hx hb dX11_swap_30 (by decide) ?_
      refine lv_aload_n hx hb dX11_swap_37 rfl (lv_at hl 2 rfl) ?_
      refine x_g_this_hall hc hw fl_11_10 dX11_swap_38 ?_
      obtain ⟨v7, S8, hcall, hf⟩ := bd2_some hf
      refine x_cvi (As := []) (rest := []) hc hw hR (hml.trans hl.1.symm) (cx_H_allWorth l N S v7 S8 hcall) xq_11_H_allWorth (x_recv_hall hw) (by decide) rfl rfl rfl (Nat.le_of_ble_eq_true rfl) dX11_swap_41 (fun H locs hw => ?_) ⟨Nat.zero_le _, Nat.zero_le _⟩
      refine lv_istore (lv' := [(7, .int v7), (6, .ref (xr g (100 + 2 * v5.toNatClampNeg))), (5, .ref (xr g (100 + 2 * v1.toNatClampNeg))), (0, .ref (xr g 0)), (1, .int a1), (2, .int a2), (3, .int a3), (4, .int a4)]) hx hb dX11_swap_44 hl (by decide) rfl (fun ls hl => ?_)
      refine lv_aload_n hx hb dX11_swap_46 rfl (lv_at hl 3 rfl) ?_
      refine lv_aload hx hb dX11_swap_47 (lv_at hl 2 rfl) ?_
      refine lv_iload_n hx hb dX11_swap_49 rfl (lv_at hl 5 rfl) ?_
      refine lv_aload hx hb dX11_swap_50 (lv_at hl 1 rfl) ?_
      refine lv_iload hx hb dX11_swap_52 (lv_at hl 7 rfl) ?_
      obtain ⟨v9, S10, hcall, hf⟩ := bd2_some hf
      refine x_cvi (As := [.ref (xr g (100 + 2 * v1.toNatClampNeg)), .int a2, .ref (xr g (100 + 2 * v5.toNatClampNeg)), .int a4]) (rest := []) hc hw hR (hml.trans hl.1.symm) (cx_X_worthSwapped l N S8 v1 a2 v5 a4 v9 S10 hcall) xq_11_X_worthSwapped (x_recv_this hw) (by decide) rfl rfl rfl (Nat.le_of_ble_eq_true rfl) dX11_swap_54 (fun H locs hw => ?_) ⟨Nat.zero_le _, Nat.zero_le _⟩
      refine lv_iload hx hb dX11_swap_57 (lv_at hl 0 rfl) ?_
      refine lv_isub hx hb dX11_swap_59 ?_
      obtain ⟨rfl, rfl⟩ := pr2_some hf
      exact hQ _ _ _ _ dX11_swap_60 hw
def xf_X_people (N : Nat) (S : xS) (a1 : Int32) (a2 : Int32) : Option (Int32 × xS) := (bd1 (xf_H_rowAt N S a1) fun v1 => (if v1 < 0 then some ((-5), S) else (if (xf_X_isIn a2 0 1) = true then (bd2 (xf_H_allWorth N S) fun v3 S4 => (bd2 (xf_X_bestSwap N S4 v1 v3) fun v5 S6 => (if a2 = 0 then some (v5, S6) else (if v5 = (-1) then some (0, S6) else (bd2 (xf_X_worthSwapped N S6 v1 (v5 / 10) v1 (v5 - v5 / 10 * 10)) fun v7 S8 => some (v7 - v3, S8)))))) else some ((-7), S))))
set_option maxRecDepth 100000 in
theorem cx_X_people (l : Launch) (N : Nat) (S : xS) (a1 : Int32) (a2 : Int32) (res : Int32) (S1 : xS) (hf : xf_X_people N S a1 a2 = some (res, S1)) : xMi l yX11_people cX11_people 6 .int 9 (fun g => [.ref (xr g 0), .int a1, .int a2]) S res S1 := by
  refine xMi_of (own := RX11) (by decide) rfl rfl (fun g => Nat.le_of_ble_eq_true rfl) ?_
  intro p e R s m args below meth c Q g A H0 H locs ls hc hR hml hw hl hQ
  have hl : lv_has ls 6 [(0, .ref (xr g 0)), (1, .int a1), (2, .int a2)] := hl
  have hx := hc.1
  have hb := hc.2.1
  unfold xf_X_people at hf
  refine lv_aload_n hx hb dX11_people_0 rfl (lv_at hl 0 rfl) ?_
  refine x_g_this_hall hc hw fl_11_10 dX11_people_1 ?_
  refine lv_iload_n hx hb dX11_people_4 rfl (lv_at hl 1 rfl) ?_
  obtain ⟨v1, hcall, hf⟩ := bd1_some hf
  refine x_cvr (As := [.int a1]) (rest := []) hc hw hR (hml.trans hl.1.symm) (cx_H_rowAt l N S a1 v1 hcall) xq_11_H_rowAt (x_recv_hall hw) (by decide) rfl rfl rfl (Nat.le_of_ble_eq_true rfl) dX11_people_5 (fun H locs hw => ?_) ⟨Nat.zero_le _, Nat.zero_le _⟩
  refine x_splitr (fun cn2 => ?_) (fun cn2 => ?_)
  · have hf := (if_pos cn2).symm.trans hf
    refine lv_astore_nN (lv' := [(3, .null), (0, .ref (xr g 0)), (1, .int a1), (2, .int a2)]) hx hb dX11_people_8 rfl hl (by decide) rfl (fun ls hl => ?_)
    refine lv_aload_nN hx hb dX11_people_9 rfl (lv_at hl 0 rfl) ?_
    refine lv_ifnonnullN hx hb dX11_people_10 ?_
    refine lv_bipush (v := (-5)) hx hb dX11_people_13 (by decide) ?_
    obtain ⟨rfl, rfl⟩ := pr2_some hf
    exact hQ _ _ _ _ dX11_people_15 hw
  · have hf := (if_neg cn2).symm.trans hf
    refine lv_astore_n (lv' := [(3, .ref (xr g (100 + 2 * v1.toNatClampNeg))), (0, .ref (xr g 0)), (1, .int a1), (2, .int a2)]) hx hb dX11_people_8 rfl hl (by decide) rfl (fun ls hl => ?_)
    refine lv_aload_n hx hb dX11_people_9 rfl (lv_at hl 0 rfl) ?_
    refine lv_ifnonnull (tgt := 16) hx hb dX11_people_10 (by decide) ?_
    refine lv_iload_n hx hb dX11_people_16 rfl (lv_at hl 3 rfl) ?_
    refine lv_iconst (v := 0) hx hb dX11_people_17 (by decide) ?_
    refine lv_iconst (v := 1) hx hb dX11_people_18 (by decide) ?_
    refine x_csi (As := [.int a2, .int 0, .int 1]) (rest := []) hc hw hR (hml.trans hl.1.symm) (cx_X_isIn l S a2 0 1 _ rfl) xq_11_X_isIn (by decide) rfl rfl rfl (Nat.le_of_ble_eq_true rfl) dX11_people_19 (fun H locs hw => ?_) ⟨Nat.zero_le _, Nat.zero_le _⟩
    refine lv_if_neb (tgt := 28) hx hb dX11_people_22 (by decide) (fun cn9 => ?_) (fun cn9 => ?_)
    · have hf := (if_pos cn9).symm.trans hf
      refine lv_aload_n hx hb dX11_people_28 rfl (lv_at hl 1 rfl) ?_
      refine x_g_this_hall hc hw fl_11_10 dX11_people_29 ?_
      obtain ⟨v3, S4, hcall, hf⟩ := bd2_some hf
      refine x_cvi (As := []) (rest := []) hc hw hR (hml.trans hl.1.symm) (cx_H_allWorth l N S v3 S4 hcall) xq_11_H_allWorth (x_recv_hall hw) (by decide) rfl rfl rfl (Nat.le_of_ble_eq_true rfl) dX11_people_32 (fun H locs hw => ?_) ⟨Nat.zero_le _, Nat.zero_le _⟩
      refine lv_istore (lv' := [(4, .int v3), (3, .ref (xr g (100 + 2 * v1.toNatClampNeg))), (0, .ref (xr g 0)), (1, .int a1), (2, .int a2)]) hx hb dX11_people_35 hl (by decide) rfl (fun ls hl => ?_)
      refine lv_aload_n hx hb dX11_people_37 rfl (lv_at hl 2 rfl) ?_
      refine lv_aload_n hx hb dX11_people_38 rfl (lv_at hl 1 rfl) ?_
      refine lv_iload hx hb dX11_people_39 (lv_at hl 0 rfl) ?_
      obtain ⟨v5, S6, hcall, hf⟩ := bd2_some hf
      refine x_cvi (As := [.ref (xr g (100 + 2 * v1.toNatClampNeg)), .int v3]) (rest := []) hc hw hR (hml.trans hl.1.symm) (cx_X_bestSwap l N S4 v1 v3 v5 S6 hcall) xq_11_X_bestSwap (x_recv_this hw) (by decide) rfl rfl rfl (Nat.le_of_ble_eq_true rfl) dX11_people_41 (fun H locs hw => ?_) ⟨Nat.zero_le _, Nat.zero_le _⟩
      refine lv_istore (lv' := [(5, .int v5), (4, .int v3), (3, .ref (xr g (100 + 2 * v1.toNatClampNeg))), (0, .ref (xr g 0)), (1, .int a1), (2, .int a2)]) hx hb dX11_people_44 hl (by decide) rfl (fun ls hl => ?_)
      refine lv_iload_n hx hb dX11_people_46 rfl (lv_at hl 5 rfl) ?_
      refine lv_if_ne (tgt := 53) hx hb dX11_people_47 (by decide) (fun cn10 => ?_) (fun cn10 => ?_)
      · have hf := (if_neg cn10).symm.trans hf
        refine lv_iload hx hb dX11_people_53 (lv_at hl 0 rfl) ?_
        refine lv_iconst (v := (-1)) hx hb dX11_people_55 (by decide) ?_
        refine lv_icmp_ne (tgt := 63) hx hb dX11_people_56 (by decide) (fun cn11 => ?_) (fun cn11 => ?_)
        · have hf := (if_neg cn11).symm.trans hf
          refine lv_aload_n hx hb dX11_people_63 rfl (lv_at hl 3 rfl) ?_
          refine lv_aload_n hx hb dX11_people_64 rfl (lv_at hl 2 rfl) ?_
          refine lv_iload hx hb dX11_people_65 (lv_at hl 0 rfl) ?_
          refine lv_bipush (v := 10) hx hb dX11_people_67 (by decide) ?_
          refine lv_idiv hx hb dX11_people_69 (by decide) ?_
          refine lv_aload_n hx hb dX11_people_70 rfl (lv_at hl 2 rfl) ?_
          refine lv_iload hx hb dX11_people_71 (lv_at hl 0 rfl) ?_
          refine lv_bipush (v := 10) hx hb dX11_people_73 (by decide) ?_
          refine lv_irem hx hb dX11_people_75 (by decide) ?_
          obtain ⟨v7, S8, hcall, hf⟩ := bd2_some hf
          refine x_cvi (As := [.ref (xr g (100 + 2 * v1.toNatClampNeg)), .int (v5 / 10), .ref (xr g (100 + 2 * v1.toNatClampNeg)), .int (v5 - v5 / 10 * 10)]) (rest := []) hc hw hR (hml.trans hl.1.symm) (cx_X_worthSwapped l N S6 v1 (v5 / 10) v1 (v5 - v5 / 10 * 10) v7 S8 hcall) xq_11_X_worthSwapped (x_recv_this hw) (by decide) rfl rfl rfl (Nat.le_of_ble_eq_true rfl) dX11_people_76 (fun H locs hw => ?_) ⟨Nat.zero_le _, Nat.zero_le _⟩
          refine lv_iload hx hb dX11_people_79 (lv_at hl 1 rfl) ?_
          refine lv_isub hx hb dX11_people_81 ?_
          obtain ⟨rfl, rfl⟩ := pr2_some hf
          exact hQ _ _ _ _ dX11_people_82 hw
        · have hf := (if_pos cn11).symm.trans hf
          refine lv_iconst (v := 0) hx hb dX11_people_59 (by decide) ?_
          refine lv_goto (tgt := 82) hx hb dX11_people_60 (by decide) ?_
          obtain ⟨rfl, rfl⟩ := pr2_some hf
          exact hQ _ _ _ _ dX11_people_82 hw
      · have hf := (if_pos cn10).symm.trans hf
        refine lv_iload hx hb dX11_people_50 (lv_at hl 0 rfl) ?_
        obtain ⟨rfl, rfl⟩ := pr2_some hf
        exact hQ _ _ _ _ dX11_people_52 hw
    · have hf := (if_neg cn9).symm.trans hf
      refine lv_bipush (v := (-7)) hx hb dX11_people_25 (by decide) ?_
      obtain ⟨rfl, rfl⟩ := pr2_some hf
      exact hQ _ _ _ _ dX11_people_27 hw
def xf_X_settle_L31 (N : Nat) (c3 : Int32) (c4 : Int32) : Nat → xS → Int32 → Option ((Int32 × xS) ⊕ (xS))
  | 0, _, _ => none
  | n + 1, S6, v5 => (if c3 ≤ v5 then some (.inr S6) else (bd2 (xf_H_allWorth N S6) fun v7 S8 => (bd2 (xf_X_bestSwap N S8 c4 v7) fun v9 S10 => (if v9 = (-1) then some (.inl (v5, S10)) else (bd1 (xf_X_changePlaces N S10 c4 (v9 / 10) c4 (v9 - v9 / 10 * 10)) fun S11 => xf_X_settle_L31 N c3 c4 n S11 (v5 + 1))))))
set_option maxRecDepth 100000 in
theorem wx_X_settle_L31 {p : Program} {l : Launch} {e : Env} {R : Room} {s : State} {m : MethodId} {args : Array Value} {below : List Frame} {meth : Method} {c : Code} {Q : State → Prop} {g : xG} {A : Nat → Prop} {H0 : Heap} (hc : qC RX11 cX11_settle p s m args c) (hR : qRoom R 9) (hml : c.maxLocals = 6) (N : Nat) (c3 : Int32) (c4 : Int32) : ∀ (n : Nat) (S6 : xS) (v5 : Int32) (X : (Int32 × xS) ⊕ (xS)) (H : Heap) (locs : List Loc) (ls : Array Slot), xf_X_settle_L31 N c3 c4 n S6 v5 = some X → xI g A H0 s S6 H locs → lv_has ls 6 [(0, .ref (xr g 0)), (2, .int c3), (3, .ref (xr g (100 + 2 * c4.toNatClampNeg))), (4, .int v5)] → (∀ (S16 : xS), X = .inr S16 → ∀ (H : Heap) (locs : List Loc) (ls : Array Slot), xI g A H0 s S16 H locs → lv_has ls 6 [(2, .int c3)] → W p l e R s m args below meth c H locs 0 0 Q (F0 m 81 ls [])) → (∀ (r : Int32) (S9 : xS), X = .inl (r, S9) → xQi p l e R s m args below meth c cX11_settle Q g A H0 r S9) → W p l e R s m args below meth c H locs 0 0 Q (F0 m 31 ls []) := by
  have hx := hc.1
  have hb := hc.2.1
  intro n
  induction n with
  | zero => intro _ _ X H locs ls hf; exact nomatch (show none = some X from hf)
  | succ n ih =>
    intro S6 v5 X H locs ls hf hw hl kx kr
    rw [xf_X_settle_L31] at hf
    refine lv_iload hx hb dX11_settle_31 (lv_at hl 3 rfl) ?_
    refine lv_iload_n hx hb dX11_settle_33 rfl (lv_at hl 1 rfl) ?_
    refine lv_icmp_ge (tgt := 81) hx hb dX11_settle_34 (by decide) (fun cn14 => ?_) (fun cn14 => ?_)
    · have hf := (if_pos cn14).symm.trans hf
      obtain rfl := Option.some.inj hf
      exact kx _ rfl _ _ _ hw (lv_sub hl [1] rfl)
    · have hf := (if_neg cn14).symm.trans hf
      refine lv_aload_n hx hb dX11_settle_37 rfl (lv_at hl 0 rfl) ?_
      refine lv_aload_n hx hb dX11_settle_38 rfl (lv_at hl 2 rfl) ?_
      refine lv_aload_n hx hb dX11_settle_39 rfl (lv_at hl 0 rfl) ?_
      refine x_g_this_hall hc hw fl_11_10 dX11_settle_40 ?_
      obtain ⟨v7, S8, hcall, hf⟩ := bd2_some hf
      refine x_cvi (As := []) (rest := [.ref (xr g (100 + 2 * c4.toNatClampNeg)), .ref (xr g 0)]) hc hw hR (hml.trans hl.1.symm) (cx_H_allWorth l N S6 v7 S8 hcall) xq_11_H_allWorth (x_recv_hall hw) (by decide) rfl rfl rfl (Nat.le_of_ble_eq_true rfl) dX11_settle_43 (fun H locs hw => ?_) ⟨Nat.zero_le _, Nat.zero_le _⟩
      obtain ⟨v9, S10, hcall, hf⟩ := bd2_some hf
      refine x_cvi (As := [.ref (xr g (100 + 2 * c4.toNatClampNeg)), .int v7]) (rest := []) hc hw hR (hml.trans hl.1.symm) (cx_X_bestSwap l N S8 c4 v7 v9 S10 hcall) xq_11_X_bestSwap (x_recv_this hw) (by decide) rfl rfl rfl (Nat.le_of_ble_eq_true rfl) dX11_settle_46 (fun H locs hw => ?_) ⟨Nat.zero_le _, Nat.zero_le _⟩
      refine lv_istore (lv' := [(5, .int v9), (0, .ref (xr g 0)), (2, .int c3), (3, .ref (xr g (100 + 2 * c4.toNatClampNeg))), (4, .int v5)]) hx hb dX11_settle_49 hl (by decide) rfl (fun ls hl => ?_)
      refine lv_iload hx hb dX11_settle_51 (lv_at hl 0 rfl) ?_
      refine lv_iconst (v := (-1)) hx hb dX11_settle_53 (by decide) ?_
      refine lv_icmp_ne (tgt := 60) hx hb dX11_settle_54 (by decide) (fun cn15 => ?_) (fun cn15 => ?_)
      · have hf := (if_neg cn15).symm.trans hf
        refine lv_aload_n hx hb dX11_settle_60 rfl (lv_at hl 3 rfl) ?_
        refine lv_iload hx hb dX11_settle_61 (lv_at hl 0 rfl) ?_
        refine lv_bipush (v := 10) hx hb dX11_settle_63 (by decide) ?_
        refine lv_idiv hx hb dX11_settle_65 (by decide) ?_
        refine lv_aload_n hx hb dX11_settle_66 rfl (lv_at hl 3 rfl) ?_
        refine lv_iload hx hb dX11_settle_67 (lv_at hl 0 rfl) ?_
        refine lv_bipush (v := 10) hx hb dX11_settle_69 (by decide) ?_
        refine lv_irem hx hb dX11_settle_71 (by decide) ?_
        obtain ⟨S11, hcall, hf⟩ := bd1_some hf
        refine x_csv (As := [.ref (xr g (100 + 2 * c4.toNatClampNeg)), .int (v9 / 10), .ref (xr g (100 + 2 * c4.toNatClampNeg)), .int (v9 - v9 / 10 * 10)]) (rest := []) hc hw hR (hml.trans hl.1.symm) (cx_X_changePlaces l N S10 c4 (v9 / 10) c4 (v9 - v9 / 10 * 10) S11 hcall) xq_11_X_changePlaces (by decide) rfl rfl rfl (Nat.le_of_ble_eq_true rfl) dX11_settle_72 (fun H locs hw => ?_) ⟨Nat.zero_le _, Nat.zero_le _⟩
        refine lv_iinc (lv' := [(4, .int (v5 + 1)), (5, .int v9), (0, .ref (xr g 0)), (2, .int c3), (3, .ref (xr g (100 + 2 * c4.toNatClampNeg)))]) hx hb dX11_settle_75 hl (k := 4) rfl rfl (by decide) rfl (fun ls hl => ?_)
        refine lv_goto (tgt := 31) hx hb dX11_settle_78 (by decide) ?_
        exact ih _ _ X _ _ _ hf hw (lv_sub hl [2, 3, 4, 0] rfl) kx kr
      · have hf := (if_pos cn15).symm.trans hf
        refine lv_iload hx hb dX11_settle_57 (lv_at hl 4 rfl) ?_
        obtain rfl := Option.some.inj hf
        exact kr _ _  rfl _ _ _ _ dX11_settle_59 hw
def xf_X_settle (N : Nat) (S : xS) (a1 : Int32) (a2 : Int32) : Option (Int32 × xS) := (bd1 (xf_H_rowAt N S a1) fun v1 => (if v1 < 0 then some ((-5), S) else (if (xf_X_isIn a2 0 5) = true then (br1 (xf_X_settle_L31 N a2 v1 N S 0) (Option.some) fun S12 => some (a2, S12)) else some ((-7), S))))
set_option maxRecDepth 100000 in
theorem cx_X_settle (l : Launch) (N : Nat) (S : xS) (a1 : Int32) (a2 : Int32) (res : Int32) (S1 : xS) (hf : xf_X_settle N S a1 a2 = some (res, S1)) : xMi l yX11_settle cX11_settle 6 .int 9 (fun g => [.ref (xr g 0), .int a1, .int a2]) S res S1 := by
  refine xMi_of (own := RX11) (by decide) rfl rfl (fun g => Nat.le_of_ble_eq_true rfl) ?_
  intro p e R s m args below meth c Q g A H0 H locs ls hc hR hml hw hl hQ
  have hl : lv_has ls 6 [(0, .ref (xr g 0)), (1, .int a1), (2, .int a2)] := hl
  have hx := hc.1
  have hb := hc.2.1
  unfold xf_X_settle at hf
  refine lv_aload_n hx hb dX11_settle_0 rfl (lv_at hl 0 rfl) ?_
  refine x_g_this_hall hc hw fl_11_10 dX11_settle_1 ?_
  refine lv_iload_n hx hb dX11_settle_4 rfl (lv_at hl 1 rfl) ?_
  obtain ⟨v1, hcall, hf⟩ := bd1_some hf
  refine x_cvr (As := [.int a1]) (rest := []) hc hw hR (hml.trans hl.1.symm) (cx_H_rowAt l N S a1 v1 hcall) xq_11_H_rowAt (x_recv_hall hw) (by decide) rfl rfl rfl (Nat.le_of_ble_eq_true rfl) dX11_settle_5 (fun H locs hw => ?_) ⟨Nat.zero_le _, Nat.zero_le _⟩
  refine x_splitr (fun cn2 => ?_) (fun cn2 => ?_)
  · have hf := (if_pos cn2).symm.trans hf
    refine lv_astore_nN (lv' := [(3, .null), (0, .ref (xr g 0)), (1, .int a1), (2, .int a2)]) hx hb dX11_settle_8 rfl hl (by decide) rfl (fun ls hl => ?_)
    refine lv_aload_nN hx hb dX11_settle_9 rfl (lv_at hl 0 rfl) ?_
    refine lv_ifnonnullN hx hb dX11_settle_10 ?_
    refine lv_bipush (v := (-5)) hx hb dX11_settle_13 (by decide) ?_
    obtain ⟨rfl, rfl⟩ := pr2_some hf
    exact hQ _ _ _ _ dX11_settle_15 hw
  · have hf := (if_neg cn2).symm.trans hf
    refine lv_astore_n (lv' := [(3, .ref (xr g (100 + 2 * v1.toNatClampNeg))), (0, .ref (xr g 0)), (1, .int a1), (2, .int a2)]) hx hb dX11_settle_8 rfl hl (by decide) rfl (fun ls hl => ?_)
    refine lv_aload_n hx hb dX11_settle_9 rfl (lv_at hl 0 rfl) ?_
    refine lv_ifnonnull (tgt := 16) hx hb dX11_settle_10 (by decide) ?_
    refine lv_iload_n hx hb dX11_settle_16 rfl (lv_at hl 3 rfl) ?_
    refine lv_iconst (v := 0) hx hb dX11_settle_17 (by decide) ?_
    refine lv_iconst (v := 5) hx hb dX11_settle_18 (by decide) ?_
    refine x_csi (As := [.int a2, .int 0, .int 5]) (rest := []) hc hw hR (hml.trans hl.1.symm) (cx_X_isIn l S a2 0 5 _ rfl) xq_11_X_isIn (by decide) rfl rfl rfl (Nat.le_of_ble_eq_true rfl) dX11_settle_19 (fun H locs hw => ?_) ⟨Nat.zero_le _, Nat.zero_le _⟩
    refine lv_if_neb (tgt := 28) hx hb dX11_settle_22 (by decide) (fun cn13 => ?_) (fun cn13 => ?_)
    · have hf := (if_pos cn13).symm.trans hf
      refine lv_iconst (v := 0) hx hb dX11_settle_28 (by decide) ?_
      refine lv_istore (lv' := [(4, .int 0), (3, .ref (xr g (100 + 2 * v1.toNatClampNeg))), (0, .ref (xr g 0)), (1, .int a1), (2, .int a2)]) hx hb dX11_settle_29 hl (by decide) rfl (fun ls hl => ?_)
      rcases br1_some hf with ⟨q, hL, hf⟩ | ⟨S12, hL, hf⟩
      · refine wx_X_settle_L31 hc hR hml N a2 v1 N _ _ _ _ _ _ hL hw (lv_sub hl [2, 4, 1, 0] rfl) (fun _  h => nomatch h) ?_
        obtain rfl := Option.some.inj hf
        intro z0 z1 h; cases h; exact hQ
      · refine wx_X_settle_L31 hc hR hml N a2 v1 N _ _ _ _ _ _ hL hw (lv_sub hl [2, 4, 1, 0] rfl) (fun y0 hi => ?_) (fun _ _  h => nomatch h)
        cases hi
        intro H locs ls hw hl
        refine lv_iload_n hx hb dX11_settle_81 rfl (lv_at hl 0 rfl) ?_
        obtain ⟨rfl, rfl⟩ := pr2_some hf
        exact hQ _ _ _ _ dX11_settle_82 hw
    · have hf := (if_neg cn13).symm.trans hf
      refine lv_bipush (v := (-7)) hx hb dX11_settle_25 (by decide) ?_
      obtain ⟨rfl, rfl⟩ := pr2_some hf
      exact hQ _ _ _ _ dX11_settle_27 hw
def xf_X_sell_L32 (N : Nat) (c3 : Int32) (c4 : Int32) : Nat → xS → Int32 → Int32 → Int32 → Option (Int32 × Int32)
  | 0, _, _, _, _ => none
  | n + 1, S8, v5, v6, v7 => (if c4 ≤ v7 then some (v5, v6) else (if ok v7 48 then (bd1 (xf_X_howManyPay N S8 (S8.1 7 v7.toNatClampNeg) c4) fun v10 => (if v6 < ((S8.1 7 v7.toNatClampNeg) * v10) then xf_X_sell_L32 N c3 c4 n S8 (S8.1 7 v7.toNatClampNeg) ((S8.1 7 v7.toNatClampNeg) * v10) (v7 + 1) else (if ((S8.1 7 v7.toNatClampNeg) * v10) = v6 then (if v5 ≤ (S8.1 7 v7.toNatClampNeg) then xf_X_sell_L32 N c3 c4 n S8 v5 v6 (v7 + 1) else xf_X_sell_L32 N c3 c4 n S8 (S8.1 7 v7.toNatClampNeg) ((S8.1 7 v7.toNatClampNeg) * v10) (v7 + 1)) else xf_X_sell_L32 N c3 c4 n S8 v5 v6 (v7 + 1)))) else none))
set_option maxRecDepth 100000 in
theorem wx_X_sell_L32 {p : Program} {l : Launch} {e : Env} {R : Room} {s : State} {m : MethodId} {args : Array Value} {below : List Frame} {meth : Method} {c : Code} {Q : State → Prop} {g : xG} {A : Nat → Prop} {H0 : Heap} (hc : qC RX11 cX11_sell p s m args c) (hR : qRoom R 9) (hml : c.maxLocals = 7) (N : Nat) (c3 : Int32) (c4 : Int32) : ∀ (n : Nat) (S8 : xS) (v5 : Int32) (v6 : Int32) (v7 : Int32) (X : Int32 × Int32) (H : Heap) (locs : List Loc) (ls : Array Slot), xf_X_sell_L32 N c3 c4 n S8 v5 v6 v7 = some X → xI g A H0 s S8 H locs → lv_has ls 7 [(0, .ref (xr g 0)), (1, .int c3), (2, .int c4), (3, .int v5), (4, .int v6), (5, .int v7)] → (∀ (H : Heap) (locs : List Loc) (ls : Array Slot), xI g A H0 s S8 H locs → lv_has ls 7 [(1, .int c3), (3, .int X.1), (4, .int X.2)] → W p l e R s m args below meth c H locs 0 0 Q (F0 m 103 ls [])) → W p l e R s m args below meth c H locs 0 0 Q (F0 m 32 ls []) := by
  have hx := hc.1
  have hb := hc.2.1
  intro n
  induction n with
  | zero => intro _ _ _ _ X H locs ls hf; exact nomatch (show none = some X from hf)
  | succ n ih =>
    intro S8 v5 v6 v7 X H locs ls hf hw hl kx
    rw [xf_X_sell_L32] at hf
    refine lv_iload hx hb dX11_sell_32 (lv_at hl 5 rfl) ?_
    refine lv_iload_n hx hb dX11_sell_34 rfl (lv_at hl 2 rfl) ?_
    refine lv_icmp_ge (tgt := 103) hx hb dX11_sell_35 (by decide) (fun cn14 => ?_) (fun cn14 => ?_)
    · have hf := (if_pos cn14).symm.trans hf
      obtain rfl := Option.some.inj hf
      exact kx _ _ _ hw (lv_sub hl [1, 3, 4] rfl)
    · have hf := (if_neg cn14).symm.trans hf
      refine lv_aload_n hx hb dX11_sell_38 rfl (lv_at hl 0 rfl) ?_
      refine x_g_this_prices hc hw fl_11_65 dX11_sell_39 ?_
      refine lv_iload hx hb dX11_sell_42 (lv_at hl 5 rfl) ?_
      obtain ⟨hi9, hf⟩ := gd_some hf
      refine x_l_this_prices hc hw (ok_in hi9) dX11_sell_44 ?_
      refine lv_aload_n hx hb dX11_sell_45 rfl (lv_at hl 0 rfl) ?_
      refine lv_aload_n hx hb dX11_sell_46 rfl (lv_at hl 0 rfl) ?_
      refine x_g_this_prices hc hw fl_11_65 dX11_sell_47 ?_
      refine lv_iload hx hb dX11_sell_50 (lv_at hl 5 rfl) ?_
      refine x_l_this_prices hc hw (ok_in hi9) dX11_sell_52 ?_
      refine lv_iload_n hx hb dX11_sell_53 rfl (lv_at hl 2 rfl) ?_
      obtain ⟨v10, hcall, hf⟩ := bd1_some hf
      refine x_cvi (As := [.int (S8.1 7 v7.toNatClampNeg), .int c4]) (rest := [.int (S8.1 7 v7.toNatClampNeg)]) hc hw hR (hml.trans hl.1.symm) (cx_X_howManyPay l N S8 (S8.1 7 v7.toNatClampNeg) c4 v10 hcall) xq_11_X_howManyPay (x_recv_this hw) (by decide) rfl rfl rfl (Nat.le_of_ble_eq_true rfl) dX11_sell_54 (fun H locs hw => ?_) ⟨Nat.zero_le _, Nat.zero_le _⟩
      refine lv_imul hx hb dX11_sell_57 ?_
      refine lv_istore (lv' := [(6, .int ((S8.1 7 v7.toNatClampNeg) * v10)), (0, .ref (xr g 0)), (1, .int c3), (2, .int c4), (3, .int v5), (4, .int v6), (5, .int v7)]) hx hb dX11_sell_58 hl (by decide) rfl (fun ls hl => ?_)
      refine lv_iload hx hb dX11_sell_60 (lv_at hl 0 rfl) ?_
      refine lv_iload hx hb dX11_sell_62 (lv_at hl 5 rfl) ?_
      refine lv_icmp_gt (tgt := 85) hx hb dX11_sell_64 (by decide) (fun cn15 => ?_) (fun cn15 => ?_)
      · have hf := (if_pos cn15).symm.trans hf
        refine lv_iload hx hb dX11_sell_85 (lv_at hl 0 rfl) ?_
        refine lv_istore (lv' := [(4, .int ((S8.1 7 v7.toNatClampNeg) * v10)), (6, .int ((S8.1 7 v7.toNatClampNeg) * v10)), (0, .ref (xr g 0)), (1, .int c3), (2, .int c4), (3, .int v5), (5, .int v7)]) hx hb dX11_sell_87 hl (by decide) rfl (fun ls hl => ?_)
        refine lv_aload_n hx hb dX11_sell_89 rfl (lv_at hl 2 rfl) ?_
        refine x_g_this_prices hc hw fl_11_65 dX11_sell_90 ?_
        refine lv_iload hx hb dX11_sell_93 (lv_at hl 6 rfl) ?_
        refine x_l_this_prices hc hw (ok_in hi9) dX11_sell_95 ?_
        refine lv_istore_n (lv' := [(3, .int (S8.1 7 v7.toNatClampNeg)), (4, .int ((S8.1 7 v7.toNatClampNeg) * v10)), (6, .int ((S8.1 7 v7.toNatClampNeg) * v10)), (0, .ref (xr g 0)), (1, .int c3), (2, .int c4), (5, .int v7)]) hx hb dX11_sell_96 rfl hl (by decide) rfl (fun ls hl => ?_)
        refine lv_iinc (lv' := [(5, .int (v7 + 1)), (3, .int (S8.1 7 v7.toNatClampNeg)), (4, .int ((S8.1 7 v7.toNatClampNeg) * v10)), (6, .int ((S8.1 7 v7.toNatClampNeg) * v10)), (0, .ref (xr g 0)), (1, .int c3), (2, .int c4)]) hx hb dX11_sell_97 hl (k := 6) rfl rfl (by decide) rfl (fun ls hl => ?_)
        refine lv_goto (tgt := 32) hx hb dX11_sell_100 (by decide) ?_
        exact ih _ _ _ _ X _ _ _ hf hw (lv_sub hl [4, 5, 6, 1, 2, 0] rfl) kx
      · have hf := (if_neg cn15).symm.trans hf
        refine lv_iload hx hb dX11_sell_67 (lv_at hl 0 rfl) ?_
        refine lv_iload hx hb dX11_sell_69 (lv_at hl 5 rfl) ?_
        refine lv_icmp_ne (tgt := 97) hx hb dX11_sell_71 (by decide) (fun cn16 => ?_) (fun cn16 => ?_)
        · have hf := (if_neg cn16).symm.trans hf
          refine lv_iinc (lv' := [(5, .int (v7 + 1)), (6, .int ((S8.1 7 v7.toNatClampNeg) * v10)), (0, .ref (xr g 0)), (1, .int c3), (2, .int c4), (3, .int v5), (4, .int v6)]) hx hb dX11_sell_97 hl (k := 6) rfl rfl (by decide) rfl (fun ls hl => ?_)
          refine lv_goto (tgt := 32) hx hb dX11_sell_100 (by decide) ?_
          exact ih _ _ _ _ X _ _ _ hf hw (lv_sub hl [2, 3, 4, 5, 6, 0] rfl) kx
        · have hf := (if_pos cn16).symm.trans hf
          refine lv_aload_n hx hb dX11_sell_74 rfl (lv_at hl 1 rfl) ?_
          refine x_g_this_prices hc hw fl_11_65 dX11_sell_75 ?_
          refine lv_iload hx hb dX11_sell_78 (lv_at hl 6 rfl) ?_
          refine x_l_this_prices hc hw (ok_in hi9) dX11_sell_80 ?_
          refine lv_iload_n hx hb dX11_sell_81 rfl (lv_at hl 4 rfl) ?_
          refine lv_icmp_ge (tgt := 97) hx hb dX11_sell_82 (by decide) (fun cn17 => ?_) (fun cn17 => ?_)
          · have hf := (if_pos cn17).symm.trans hf
            refine lv_iinc (lv' := [(5, .int (v7 + 1)), (6, .int ((S8.1 7 v7.toNatClampNeg) * v10)), (0, .ref (xr g 0)), (1, .int c3), (2, .int c4), (3, .int v5), (4, .int v6)]) hx hb dX11_sell_97 hl (k := 6) rfl rfl (by decide) rfl (fun ls hl => ?_)
            refine lv_goto (tgt := 32) hx hb dX11_sell_100 (by decide) ?_
            exact ih _ _ _ _ X _ _ _ hf hw (lv_sub hl [2, 3, 4, 5, 6, 0] rfl) kx
          · have hf := (if_neg cn17).symm.trans hf
            refine lv_iload hx hb dX11_sell_85 (lv_at hl 0 rfl) ?_
            refine lv_istore (lv' := [(4, .int ((S8.1 7 v7.toNatClampNeg) * v10)), (6, .int ((S8.1 7 v7.toNatClampNeg) * v10)), (0, .ref (xr g 0)), (1, .int c3), (2, .int c4), (3, .int v5), (5, .int v7)]) hx hb dX11_sell_87 hl (by decide) rfl (fun ls hl => ?_)
            refine lv_aload_n hx hb dX11_sell_89 rfl (lv_at hl 2 rfl) ?_
            refine x_g_this_prices hc hw fl_11_65 dX11_sell_90 ?_
            refine lv_iload hx hb dX11_sell_93 (lv_at hl 6 rfl) ?_
            refine x_l_this_prices hc hw (ok_in hi9) dX11_sell_95 ?_
            refine lv_istore_n (lv' := [(3, .int (S8.1 7 v7.toNatClampNeg)), (4, .int ((S8.1 7 v7.toNatClampNeg) * v10)), (6, .int ((S8.1 7 v7.toNatClampNeg) * v10)), (0, .ref (xr g 0)), (1, .int c3), (2, .int c4), (5, .int v7)]) hx hb dX11_sell_96 rfl hl (by decide) rfl (fun ls hl => ?_)
            refine lv_iinc (lv' := [(5, .int (v7 + 1)), (3, .int (S8.1 7 v7.toNatClampNeg)), (4, .int ((S8.1 7 v7.toNatClampNeg) * v10)), (6, .int ((S8.1 7 v7.toNatClampNeg) * v10)), (0, .ref (xr g 0)), (1, .int c3), (2, .int c4)]) hx hb dX11_sell_97 hl (k := 6) rfl rfl (by decide) rfl (fun ls hl => ?_)
            refine lv_goto (tgt := 32) hx hb dX11_sell_100 (by decide) ?_
            exact ih _ _ _ _ X _ _ _ hf hw (lv_sub hl [4, 5, 6, 1, 2, 0] rfl) kx
def xf_X_sell (N : Nat) (S : xS) (a1 : Int32) : Option (Int32 × xS) := (if (xf_X_isIn a1 0 1) = true then (bd2 (xf_H_pricesInto N S) fun v1 S2 => (bd2 (xf_X_sell_L32 N a1 v1 N S2 0 0 0) fun v11 v12 => (if a1 = 0 then some (v11, S2) else some (v12, S2)))) else some ((-2), S))
set_option maxRecDepth 100000 in
theorem cx_X_sell (l : Launch) (N : Nat) (S : xS) (a1 : Int32) (res : Int32) (S1 : xS) (hf : xf_X_sell N S a1 = some (res, S1)) : xMi l yX11_sell cX11_sell 7 .int 9 (fun g => [.ref (xr g 0), .int a1]) S res S1 := by
  refine xMi_of (own := RX11) (by decide) rfl rfl (fun g => Nat.le_of_ble_eq_true rfl) ?_
  intro p e R s m args below meth c Q g A H0 H locs ls hc hR hml hw hl hQ
  have hl : lv_has ls 7 [(0, .ref (xr g 0)), (1, .int a1)] := hl
  have hx := hc.1
  have hb := hc.2.1
  unfold xf_X_sell at hf
  refine lv_iload_n hx hb dX11_sell_0 rfl (lv_at hl 1 rfl) ?_
  refine lv_iconst (v := 0) hx hb dX11_sell_1 (by decide) ?_
  refine lv_iconst (v := 1) hx hb dX11_sell_2 (by decide) ?_
  refine x_csi (As := [.int a1, .int 0, .int 1]) (rest := []) hc hw hR (hml.trans hl.1.symm) (cx_X_isIn l S a1 0 1 _ rfl) xq_11_X_isIn (by decide) rfl rfl rfl (Nat.le_of_ble_eq_true rfl) dX11_sell_3 (fun H locs hw => ?_) ⟨Nat.zero_le _, Nat.zero_le _⟩
  refine lv_if_neb (tgt := 12) hx hb dX11_sell_6 (by decide) (fun cn13 => ?_) (fun cn13 => ?_)
  · have hf := (if_pos cn13).symm.trans hf
    refine lv_aload_n hx hb dX11_sell_12 rfl (lv_at hl 0 rfl) ?_
    refine x_g_this_hall hc hw fl_11_10 dX11_sell_13 ?_
    refine lv_aload_n hx hb dX11_sell_16 rfl (lv_at hl 0 rfl) ?_
    refine x_g_this_prices hc hw fl_11_65 dX11_sell_17 ?_
    obtain ⟨v1, S2, hcall, hf⟩ := bd2_some hf
    refine x_cvi (As := [.ref (xr g 6)]) (rest := []) hc hw hR (hml.trans hl.1.symm) (cx_H_pricesInto l N S v1 S2 hcall) xq_11_H_pricesInto (x_recv_hall hw) (by decide) rfl rfl rfl (Nat.le_of_ble_eq_true rfl) dX11_sell_20 (fun H locs hw => ?_) ⟨Nat.zero_le _, Nat.zero_le _⟩
    refine lv_istore_n (lv' := [(2, .int v1), (0, .ref (xr g 0)), (1, .int a1)]) hx hb dX11_sell_23 rfl hl (by decide) rfl (fun ls hl => ?_)
    refine lv_iconst (v := 0) hx hb dX11_sell_24 (by decide) ?_
    refine lv_istore_n (lv' := [(3, .int 0), (2, .int v1), (0, .ref (xr g 0)), (1, .int a1)]) hx hb dX11_sell_25 rfl hl (by decide) rfl (fun ls hl => ?_)
    refine lv_iconst (v := 0) hx hb dX11_sell_26 (by decide) ?_
    refine lv_istore (lv' := [(4, .int 0), (3, .int 0), (2, .int v1), (0, .ref (xr g 0)), (1, .int a1)]) hx hb dX11_sell_27 hl (by decide) rfl (fun ls hl => ?_)
    refine lv_iconst (v := 0) hx hb dX11_sell_29 (by decide) ?_
    refine lv_istore (lv' := [(5, .int 0), (4, .int 0), (3, .int 0), (2, .int v1), (0, .ref (xr g 0)), (1, .int a1)]) hx hb dX11_sell_30 hl (by decide) rfl (fun ls hl => ?_)
    obtain ⟨v11, v12, hL, hf⟩ := bd2_some hf
    refine wx_X_sell_L32 hc hR hml N a1 v1 N _ _ _ _ _ _ _ _ hL hw (lv_sub hl [4, 5, 3, 2, 1, 0] rfl) (fun H locs ls hw hl => ?_)
    refine lv_iload_n hx hb dX11_sell_103 rfl (lv_at hl 0 rfl) ?_
    refine lv_if_ne (tgt := 111) hx hb dX11_sell_104 (by decide) (fun cn20 => ?_) (fun cn20 => ?_)
    · have hf := (if_neg cn20).symm.trans hf
      refine lv_iload hx hb dX11_sell_111 (lv_at hl 2 rfl) ?_
      obtain ⟨rfl, rfl⟩ := pr2_some hf
      exact hQ _ _ _ _ dX11_sell_113 hw
    · have hf := (if_pos cn20).symm.trans hf
      refine lv_iload_n hx hb dX11_sell_107 rfl (lv_at hl 1 rfl) ?_
      refine lv_goto (tgt := 113) hx hb dX11_sell_108 (by decide) ?_
      obtain ⟨rfl, rfl⟩ := pr2_some hf
      exact hQ _ _ _ _ dX11_sell_113 hw
  · have hf := (if_neg cn13).symm.trans hf
    refine lv_bipush (v := (-2)) hx hb dX11_sell_9 (by decide) ?_
    obtain ⟨rfl, rfl⟩ := pr2_some hf
    exact hQ _ _ _ _ dX11_sell_11 hw
def xf_R_expect (N : Nat) (S : xS) (a1 : Int32) : Option (xS) := (if (S.1 43 0) = a1 then (bd1 (xf_R_advance N S) fun S1 => some S1) else some (xf_R_refuse S))
set_option maxRecDepth 100000 in
theorem cx_R_expect (l : Launch) (N : Nat) (S : xS) (a1 : Int32) (S1 : xS) (hf : xf_R_expect N S a1 = some S1) : xMv l yX7_expect cX7_expect 2 9 (fun g => [.ref (xr g 3), .int a1]) S S1 := by
  refine xMv_of (own := RX7) (by decide) rfl (fun g => Nat.le_of_ble_eq_true rfl) ?_
  intro p e R s m args below meth c Q g A H0 H locs ls hc hR hml hw hl hQ
  have hl : lv_has ls 2 [(0, .ref (xr g 3)), (1, .int a1)] := hl
  have hx := hc.1
  have hb := hc.2.1
  unfold xf_R_expect at hf
  refine lv_aload_n hx hb dX7_expect_0 rfl (lv_at hl 0 rfl) ?_
  refine x_g_reader_token hc hw fl_7_28 dX7_expect_1 ?_
  refine lv_iload_n hx hb dX7_expect_4 rfl (lv_at hl 1 rfl) ?_
  refine lv_icmp_ne (tgt := 15) hx hb dX7_expect_5 (by decide) (fun cn2 => ?_) (fun cn2 => ?_)
  · have hf := (if_neg cn2).symm.trans hf
    refine lv_aload_n hx hb dX7_expect_15 rfl (lv_at hl 0 rfl) ?_
    refine x_cvv (As := []) (rest := []) hc hw hR (hml.trans hl.1.symm) (cx_R_refuse l S _ rfl) xq_7_R_refuse (x_recv_reader hw) (by decide) rfl rfl rfl (Nat.le_of_ble_eq_true rfl) dX7_expect_16 (fun H locs hw => ?_) ⟨Nat.zero_le _, Nat.zero_le _⟩
    obtain rfl := Option.some.inj hf
    exact hQ _ _ _ _ dX7_expect_19 hw
  · have hf := (if_pos cn2).symm.trans hf
    refine lv_aload_n hx hb dX7_expect_8 rfl (lv_at hl 0 rfl) ?_
    obtain ⟨S1, hcall, hf⟩ := bd1_some hf
    refine x_cvv (As := []) (rest := []) hc hw hR (hml.trans hl.1.symm) (cx_R_advance l N S S1 hcall) xq_7_R_advance (x_recv_reader hw) (by decide) rfl rfl rfl (Nat.le_of_ble_eq_true rfl) dX7_expect_9 (fun H locs hw => ?_) ⟨Nat.zero_le _, Nat.zero_le _⟩
    refine lv_goto (tgt := 19) hx hb dX7_expect_12 (by decide) ?_
    obtain rfl := Option.some.inj hf
    exact hQ _ _ _ _ dX7_expect_19 hw
def xf_R_opens (N : Nat) (S : xS) : Option (Bool × xS) := (if (S.1 45 0) < 5 then (bd1 (xf_R_advance N (xs S 45 0 ((S.1 45 0) + 1))) fun S1 => some (true, S1)) else some (false, xf_R_refuse S))
set_option maxRecDepth 100000 in
theorem cx_R_opens (l : Launch) (N : Nat) (S : xS) (res : Bool) (S1 : xS) (hf : xf_R_opens N S = some (res, S1)) : xMi l yX7_opens cX7_opens 1 .boolean 9 (fun g => [.ref (xr g 3)]) S (bi res) S1 := by
  refine xMi_of (own := RX7) (by decide) rfl (narrow_bi _) (fun g => Nat.le_of_ble_eq_true rfl) ?_
  intro p e R s m args below meth c Q g A H0 H locs ls hc hR hml hw hl hQ
  have hl : lv_has ls 1 [(0, .ref (xr g 3))] := hl
  have hx := hc.1
  have hb := hc.2.1
  unfold xf_R_opens at hf
  refine lv_aload_n hx hb dX7_opens_0 rfl (lv_at hl 0 rfl) ?_
  refine x_g_reader_open hc hw fl_7_34 dX7_opens_1 ?_
  refine lv_iconst (v := 5) hx hb dX7_opens_4 (by decide) ?_
  refine lv_icmp_lt (tgt := 14) hx hb dX7_opens_5 (by decide) (fun cn2 => ?_) (fun cn2 => ?_)
  · have hf := (if_pos cn2).symm.trans hf
    refine lv_aload_n hx hb dX7_opens_14 rfl (lv_at hl 0 rfl) ?_
    refine lv_dup hx hb dX7_opens_15 rfl ?_
    refine x_g_reader_open hc hw fl_7_34 dX7_opens_16 ?_
    refine lv_iconst (v := 1) hx hb dX7_opens_19 (by decide) ?_
    refine lv_iadd hx hb dX7_opens_20 ?_
    refine x_p_reader_open hc hw fl_7_34 dX7_opens_21 (fun H locs hw => ?_)
    refine lv_aload_n hx hb dX7_opens_24 rfl (lv_at hl 0 rfl) ?_
    obtain ⟨S1, hcall, hf⟩ := bd1_some hf
    refine x_cvv (As := []) (rest := []) hc hw hR (hml.trans hl.1.symm) (cx_R_advance l N (xs S 45 0 ((S.1 45 0) + 1)) S1 hcall) xq_7_R_advance (x_recv_reader hw) (by decide) rfl rfl rfl (Nat.le_of_ble_eq_true rfl) dX7_opens_25 (fun H locs hw => ?_) ⟨Nat.zero_le _, Nat.zero_le _⟩
    refine lv_iconst (v := 1) hx hb dX7_opens_28 (by decide) ?_
    obtain ⟨rfl, rfl⟩ := pr2_some hf
    exact hQ _ _ _ _ dX7_opens_29 hw
  · have hf := (if_neg cn2).symm.trans hf
    refine lv_aload_n hx hb dX7_opens_8 rfl (lv_at hl 0 rfl) ?_
    refine x_cvv (As := []) (rest := []) hc hw hR (hml.trans hl.1.symm) (cx_R_refuse l S _ rfl) xq_7_R_refuse (x_recv_reader hw) (by decide) rfl rfl rfl (Nat.le_of_ble_eq_true rfl) dX7_opens_9 (fun H locs hw => ?_) ⟨Nat.zero_le _, Nat.zero_le _⟩
    refine lv_iconst (v := 0) hx hb dX7_opens_12 (by decide) ?_
    obtain ⟨rfl, rfl⟩ := pr2_some hf
    exact hQ _ _ _ _ dX7_opens_13 hw
