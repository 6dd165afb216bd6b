abbrev rm_L_ends : Room := { frames := 6, cells := 0, slots := 0, locals := 140 }
theorem dsL_ends : yL_ends.cls ≠ "java/lang/invoke/MethodHandle" ∧ yL_ends.cls ≠ "java/lang/invoke/VarHandle" ∧ (parseMethodDescriptor yL_ends.desc).map (fun d => d.parameters.length) = some 4 := by decide +kernel
theorem gv_RL_X5_cancel : GoodIn wsL_law (wsV RL 129 RX5 yX5_cancel (.code yX5_cancel cX5_cancel 3 (some .int) :: wsL_law)) := good_V q542 q329 q330 q2 q331
theorem gv_RL_X5_merge : GoodIn wsL_law (wsV RL 132 RX5 yX5_merge (.code yX5_merge cX5_merge 7 (some .int) :: wsL_law)) := good_V q338 q284 q285 q2 q286
def f_L_ends_J55 (S : Hp) (y0 : Option Nat) (y1 : Int32) (y4 : Int32) (y5 : Int32) (y6 : Int32) (y7 : Int32) (z0 : Int32) : Option (Int32 × Hp) :=
 if y1 = 12 then
 ob S 5 y0 fun b1 => cl (f_X5_cancel S b1 y4) fun v1 S1 =>
 if z0 = 0 then
 if v1 = (-4) then
 some ((1 : Int32), S1)
 else
 some ((0 : Int32), S1)
 else
 if v1 = y6 then
 ob S1 5 y0 fun b2 => cl (f_X5_tour S1 b2 y4 (7 : Int32)) fun v2 S2 =>
 if v2 = 4 then
 ob S2 5 y0 fun b3 => cl (f_X5_count S2 b3 (9 : Int32)) fun v3 S3 =>
 if v3 = (y7 + y6) then
 some ((1 : Int32), S3)
 else
 some ((0 : Int32), S3)
 else
 some ((0 : Int32), S2)
 else
 some ((0 : Int32), S1)
 else
 ob S 5 y0 fun b4 => cl (f_X5_tour S b4 y5 (3 : Int32)) fun v4 S4 =>
 ob S4 5 y0 fun b5 => cl (f_X5_count S4 b5 (8 : Int32)) fun v5 S5 =>
 ob S5 5 y0 fun b6 => cl (f_X5_tour S5 b6 y4 (3 : Int32)) fun v6 S6 =>
 ob S6 5 y0 fun b7 => cl (f_X5_merge S6 b7 y4 y5) fun v7 S7 =>
 if y4 = y5 then
 if v7 = (-2) then
 some ((1 : Int32), S7)
 else
 some ((0 : Int32), S7)
 else
 if v7 = (-4) then
 some ((1 : Int32), S7)
 else
 if v7 < 0 then
 some ((0 : Int32), S7)
 else
 if z0 = 0 then
 some ((0 : Int32), S7)
 else
 ob S7 5 y0 fun b8 => cl (f_X5_tour S7 b8 y5 (3 : Int32)) fun v8 S8 =>
 if v8 = (v4 + v6) then
 ob S8 5 y0 fun b9 => cl (f_X5_tour S8 b9 y4 (6 : Int32)) fun v9 S9 =>
 if v9 = 3 then
 ob S9 5 y0 fun b10 => cl (f_X5_count S9 b10 (8 : Int32)) fun v10 S10 =>
 if v10 = (v5 - v7) then
 ob S10 5 y0 fun b11 => cl (f_X5_count S10 b11 (9 : Int32)) fun v11 S11 =>
 if v11 = (y7 + v7) then
 ob S11 5 y0 fun b12 => cl (f_X5_tour S11 b12 y5 (0 : Int32)) fun v12 S12 =>
 ob S12 5 y0 fun b13 => cl (f_X5_tour S12 b13 y4 (0 : Int32)) fun v13 S13 =>
 if v12 = v13 then
 some ((1 : Int32), S13)
 else
 some ((0 : Int32), S13)
 else
 some ((0 : Int32), S11)
 else
 some ((0 : Int32), S10)
 else
 some ((0 : Int32), S9)
 else
 some ((0 : Int32), S8)
def f_L_ends (S : Hp) (x0 : Option Nat) (x1 : Int32) (x2 : Int32) (x3 : Int32) : Option (Int32 × Hp) :=
 ob S 5 x0 fun b1 => cl (f_X5_count S b1 (3 : Int32)) fun v1 S1 =>
 cl (f_L_low S1 x2 v1) fun v2 S2 =>
 ob S2 5 x0 fun b2 => cl (f_X5_count S2 b2 (3 : Int32)) fun v3 S3 =>
 cl (f_L_low S3 x3 v3) fun v4 S4 =>
 ob S4 5 x0 fun b3 => cl (f_X5_tour S4 b3 v2 (5 : Int32)) fun v5 S5 =>
 ob S5 5 x0 fun b4 => cl (f_X5_count S5 b4 (9 : Int32)) fun v6 S6 =>
 ob S6 5 x0 fun b5 => cl (f_X5_tour S6 b5 v2 (6 : Int32)) fun v7 S7 =>
 if v7 = 0 then
 f_L_ends_J55 S7 x0 x1 v2 v4 v5 v6 (1 : Int32)
 else
 f_L_ends_J55 S7 x0 x1 v2 v4 v5 v6 (0 : Int32)
set_option maxHeartbeats 4000000 in
set_option maxRecDepth 100000 in
theorem w_L_ends_J55 {X : Cx} (C : CxOK X cL_ends RL rm_L_ends) (hn : xn X = 13) {S0 : Hp} {o : Int32 × Hp} (hQ : QI X (some .boolean) S0 0 0 o)  (S : Hp) (y0 : Option Nat) (y1 : Int32) (y4 : Int32) (y5 : Int32) (y6 : Int32) (y7 : Int32) (z0 : Int32) (h : f_L_ends_J55 S y0 y1 y4 y5 y6 y7 z0 = some o) : GW X 0 0 S 55 [(0, va_rf y0), (1, .int y1), (4, .int y4), (5, .int y5), (6, .int y6), (7, .int y7)] [.int z0] := by
  have hn8 : 8 < xn X := by rw [hn]; decide
  have hn9 : 9 < xn X := by rw [hn]; decide
  have hn10 : 10 < xn X := by rw [hn]; decide
  have hn11 : 11 < xn X := by rw [hn]; decide
  have hn12 : 12 < xn X := by rw [hn]; decide
  unfold f_L_ends_J55 at h
  refine g_istore C (i := 8) (lv' := [(8, .int z0), (0, va_rf y0), (1, .int y1), (4, .int y4), (5, .int y5), (6, .int y6), (7, .int y7)]) dL_ends_55 hn8 rfl ?_
  refine g_iload_n C (q := 2) dL_ends_57 rfl rfl ?_
  refine g_bipush C (v := 12) dL_ends_58 (by decide) ?_
  refine g_icmp_ne C (tgt := 130) dL_ends_60 (by decide) h (fun h => ?_) (fun h => ?_)
  · refine g_aload_n C (q := 1) dL_ends_63 rfl rfl ?_
    refine g_iload C (q := 3) dL_ends_64 rfl ?_
    refine g_callVI C (ci := 5) (As := [.int y4]) (np := 1) (st := []) (r := y0) rfl (by decide) (fun b1 q hq => c_X5_cancel S b1 y4 q hq) gv_RL_X5_cancel rfl rfl dsX5_cancel rfl ⟨Nat.le_of_ble_eq_true rfl, Nat.le_of_ble_eq_true rfl⟩ rfl (cat_sum (Nat.le_of_ble_eq_true rfl)) ⟨Nat.zero_le _, Nat.zero_le _⟩ dL_ends_66 h (fun v1 S1 h => ?_)
    refine g_istore C (i := 9) (lv' := [(9, .int v1), (8, .int z0), (0, va_rf y0), (1, .int y1), (4, .int y4), (5, .int y5), (6, .int y6), (7, .int y7)]) dL_ends_69 hn9 rfl ?_
    refine g_iload C (q := 1) dL_ends_71 rfl ?_
    refine g_if_eq C (tgt := 117) dL_ends_73 (by decide) h (fun h => ?_) (fun h => ?_)
    · refine g_iload C (q := 0) dL_ends_117 rfl ?_
      refine g_bipush C (v := (-4)) dL_ends_119 (by decide) ?_
      refine g_icmp_ne C (tgt := 128) dL_ends_121 (by decide) h (fun h => ?_) (fun h => ?_)
      · refine g_iconst C (v := 1) dL_ends_124 (by decide) ?_
        refine g_goto C (tgt := 129) dL_ends_125 (by decide) ?_
        exact g_zret C hQ (by decide) dL_ends_129 h
      · refine g_iconst C (v := 0) dL_ends_128 (by decide) ?_
        exact g_zret C hQ (by decide) dL_ends_129 h
    · refine g_iload C (q := 0) dL_ends_76 rfl ?_
      refine g_iload C (q := 6) dL_ends_78 rfl ?_
      refine g_icmp_ne C (tgt := 113) dL_ends_80 (by decide) h (fun h => ?_) (fun h => ?_)
      · refine g_aload_n C (q := 2) dL_ends_83 rfl rfl ?_
        refine g_iload C (q := 4) dL_ends_84 rfl ?_
        refine g_bipush C (v := 7) dL_ends_86 (by decide) ?_
        refine g_callVI C (ci := 5) (As := [.int y4, .int 7]) (np := 2) (st := []) (r := y0) rfl (by decide) (fun b2 q hq => c_X5_tour S1 b2 y4 (7 : Int32) q hq) gv_RL_X5_tour rfl rfl dsX5_tour rfl ⟨Nat.le_of_ble_eq_true rfl, Nat.le_of_ble_eq_true rfl⟩ rfl (cat_sum (Nat.le_of_ble_eq_true rfl)) ⟨Nat.zero_le _, Nat.zero_le _⟩ dL_ends_88 h (fun v2 S2 h => ?_)
        refine g_iconst C (v := 4) dL_ends_91 (by decide) ?_
        refine g_icmp_ne C (tgt := 113) dL_ends_92 (by decide) h (fun h => ?_) (fun h => ?_)
        · refine g_aload_n C (q := 2) dL_ends_95 rfl rfl ?_
          refine g_bipush C (v := 9) dL_ends_96 (by decide) ?_
          refine g_callVI C (ci := 5) (As := [.int 9]) (np := 1) (st := []) (r := y0) rfl (by decide) (fun b3 q hq => c_X5_count S2 b3 (9 : Int32) q hq) gv_RL_X5_count rfl rfl dsX5_count rfl ⟨Nat.le_of_ble_eq_true rfl, Nat.le_of_ble_eq_true rfl⟩ rfl (cat_sum (Nat.le_of_ble_eq_true rfl)) ⟨Nat.zero_le _, Nat.zero_le _⟩ dL_ends_98 h (fun v3 S3 h => ?_)
          refine g_iload C (q := 7) dL_ends_101 rfl ?_
          refine g_iload C (q := 6) dL_ends_103 rfl ?_
          refine g_iadd C dL_ends_105 ?_
          refine g_icmp_ne C (tgt := 113) dL_ends_106 (by decide) h (fun h => ?_) (fun h => ?_)
          · refine g_iconst C (v := 1) dL_ends_109 (by decide) ?_
            refine g_goto C (tgt := 129) dL_ends_110 (by decide) ?_
            exact g_zret C hQ (by decide) dL_ends_129 h
          · refine g_iconst C (v := 0) dL_ends_113 (by decide) ?_
            refine g_goto C (tgt := 129) dL_ends_114 (by decide) ?_
            exact g_zret C hQ (by decide) dL_ends_129 h
        · refine g_iconst C (v := 0) dL_ends_113 (by decide) ?_
          refine g_goto C (tgt := 129) dL_ends_114 (by decide) ?_
          exact g_zret C hQ (by decide) dL_ends_129 h
      · refine g_iconst C (v := 0) dL_ends_113 (by decide) ?_
        refine g_goto C (tgt := 129) dL_ends_114 (by decide) ?_
        exact g_zret C hQ (by decide) dL_ends_129 h
  · refine g_aload_n C (q := 1) dL_ends_130 rfl rfl ?_
    refine g_iload C (q := 4) dL_ends_131 rfl ?_
    refine g_iconst C (v := 3) dL_ends_133 (by decide) ?_
    refine g_callVI C (ci := 5) (As := [.int y5, .int 3]) (np := 2) (st := []) (r := y0) rfl (by decide) (fun b4 q hq => c_X5_tour S b4 y5 (3 : Int32) q hq) gv_RL_X5_tour rfl rfl dsX5_tour rfl ⟨Nat.le_of_ble_eq_true rfl, Nat.le_of_ble_eq_true rfl⟩ rfl (cat_sum (Nat.le_of_ble_eq_true rfl)) ⟨Nat.zero_le _, Nat.zero_le _⟩ dL_ends_134 h (fun v4 S4 h => ?_)
    refine g_istore C (i := 9) (lv' := [(9, .int v4), (8, .int z0), (0, va_rf y0), (1, .int y1), (4, .int y4), (5, .int y5), (6, .int y6), (7, .int y7)]) dL_ends_137 hn9 rfl ?_
    refine g_aload_n C (q := 2) dL_ends_139 rfl rfl ?_
    refine g_bipush C (v := 8) dL_ends_140 (by decide) ?_
    refine g_callVI C (ci := 5) (As := [.int 8]) (np := 1) (st := []) (r := y0) rfl (by decide) (fun b5 q hq => c_X5_count S4 b5 (8 : Int32) q hq) gv_RL_X5_count rfl rfl dsX5_count rfl ⟨Nat.le_of_ble_eq_true rfl, Nat.le_of_ble_eq_true rfl⟩ rfl (cat_sum (Nat.le_of_ble_eq_true rfl)) ⟨Nat.zero_le _, Nat.zero_le _⟩ dL_ends_142 h (fun v5 S5 h => ?_)
    refine g_istore C (i := 10) (lv' := [(10, .int v5), (9, .int v4), (8, .int z0), (0, va_rf y0), (1, .int y1), (4, .int y4), (5, .int y5), (6, .int y6), (7, .int y7)]) dL_ends_145 hn10 rfl ?_
    refine g_aload_n C (q := 3) dL_ends_147 rfl rfl ?_
    refine g_iload C (q := 5) dL_ends_148 rfl ?_
    refine g_iconst C (v := 3) dL_ends_150 (by decide) ?_
    refine g_callVI C (ci := 5) (As := [.int y4, .int 3]) (np := 2) (st := []) (r := y0) rfl (by decide) (fun b6 q hq => c_X5_tour S5 b6 y4 (3 : Int32) q hq) gv_RL_X5_tour rfl rfl dsX5_tour rfl ⟨Nat.le_of_ble_eq_true rfl, Nat.le_of_ble_eq_true rfl⟩ rfl (cat_sum (Nat.le_of_ble_eq_true rfl)) ⟨Nat.zero_le _, Nat.zero_le _⟩ dL_ends_151 h (fun v6 S6 h => ?_)
    refine g_istore C (i := 11) (lv' := [(11, .int v6), (10, .int v5), (9, .int v4), (8, .int z0), (0, va_rf y0), (1, .int y1), (4, .int y4), (5, .int y5), (6, .int y6), (7, .int y7)]) dL_ends_154 hn11 rfl ?_
    refine g_aload_n C (q := 4) dL_ends_156 rfl rfl ?_
    refine g_iload C (q := 6) dL_ends_157 rfl ?_
    refine g_iload C (q := 7) dL_ends_159 rfl ?_
    refine g_callVI C (ci := 5) (As := [.int y4, .int y5]) (np := 2) (st := []) (r := y0) rfl (by decide) (fun b7 q hq => c_X5_merge S6 b7 y4 y5 q hq) gv_RL_X5_merge rfl rfl dsX5_merge rfl ⟨Nat.le_of_ble_eq_true rfl, Nat.le_of_ble_eq_true rfl⟩ rfl (cat_sum (Nat.le_of_ble_eq_true rfl)) ⟨Nat.zero_le _, Nat.zero_le _⟩ dL_ends_161 h (fun v7 S7 h => ?_)
    refine g_istore C (i := 12) (lv' := [(12, .int v7), (11, .int v6), (10, .int v5), (9, .int v4), (8, .int z0), (0, va_rf y0), (1, .int y1), (4, .int y4), (5, .int y5), (6, .int y6), (7, .int y7)]) dL_ends_164 hn12 rfl ?_
    refine g_iload C (q := 7) dL_ends_166 rfl ?_
    refine g_iload C (q := 8) dL_ends_168 rfl ?_
    refine g_icmp_ne C (tgt := 186) dL_ends_170 (by decide) h (fun h => ?_) (fun h => ?_)
    · refine g_iload C (q := 0) dL_ends_173 rfl ?_
      refine g_bipush C (v := (-2)) dL_ends_175 (by decide) ?_
      refine g_icmp_ne C (tgt := 184) dL_ends_177 (by decide) h (fun h => ?_) (fun h => ?_)
      · refine g_iconst C (v := 1) dL_ends_180 (by decide) ?_
        refine g_goto C (tgt := 185) dL_ends_181 (by decide) ?_
        exact g_zret C hQ (by decide) dL_ends_185 h
      · refine g_iconst C (v := 0) dL_ends_184 (by decide) ?_
        exact g_zret C hQ (by decide) dL_ends_185 h
    · refine g_iload C (q := 0) dL_ends_186 rfl ?_
      refine g_bipush C (v := (-4)) dL_ends_188 (by decide) ?_
      refine g_icmp_eq C (tgt := 275) dL_ends_190 (by decide) h (fun h => ?_) (fun h => ?_)
      · refine g_iconst C (v := 1) dL_ends_275 (by decide) ?_
        refine g_goto C (tgt := 280) dL_ends_276 (by decide) ?_
        exact g_zret C hQ (by decide) dL_ends_280 h
      · refine g_iload C (q := 0) dL_ends_193 rfl ?_
        refine g_if_lt C (tgt := 279) dL_ends_195 (by decide) h (fun h => ?_) (fun h => ?_)
        · refine g_iconst C (v := 0) dL_ends_279 (by decide) ?_
          exact g_zret C hQ (by decide) dL_ends_280 h
        · refine g_iload C (q := 4) dL_ends_198 rfl ?_
          refine g_if_eq C (tgt := 279) dL_ends_200 (by decide) h (fun h => ?_) (fun h => ?_)
          · refine g_iconst C (v := 0) dL_ends_279 (by decide) ?_
            exact g_zret C hQ (by decide) dL_ends_280 h
          · refine g_aload_n C (q := 5) dL_ends_203 rfl rfl ?_
            refine g_iload C (q := 8) dL_ends_204 rfl ?_
            refine g_iconst C (v := 3) dL_ends_206 (by decide) ?_
            refine g_callVI C (ci := 5) (As := [.int y5, .int 3]) (np := 2) (st := []) (r := y0) rfl (by decide) (fun b8 q hq => c_X5_tour S7 b8 y5 (3 : Int32) q hq) gv_RL_X5_tour rfl rfl dsX5_tour rfl ⟨Nat.le_of_ble_eq_true rfl, Nat.le_of_ble_eq_true rfl⟩ rfl (cat_sum (Nat.le_of_ble_eq_true rfl)) ⟨Nat.zero_le _, Nat.zero_le _⟩ dL_ends_207 h (fun v8 S8 h => ?_)
            refine g_iload C (q := 3) dL_ends_210 rfl ?_
            refine g_iload C (q := 1) dL_ends_212 rfl ?_
            refine g_iadd C dL_ends_214 ?_
            refine g_icmp_ne C (tgt := 279) dL_ends_215 (by decide) h (fun h => ?_) (fun h => ?_)
            · refine g_aload_n C (q := 5) dL_ends_218 rfl rfl ?_
              refine g_iload C (q := 7) dL_ends_219 rfl ?_
              refine g_bipush C (v := 6) dL_ends_221 (by decide) ?_
              refine g_callVI C (ci := 5) (As := [.int y4, .int 6]) (np := 2) (st := []) (r := y0) rfl (by decide) (fun b9 q hq => c_X5_tour S8 b9 y4 (6 : Int32) q hq) gv_RL_X5_tour rfl rfl dsX5_tour rfl ⟨Nat.le_of_ble_eq_true rfl, Nat.le_of_ble_eq_true rfl⟩ rfl (cat_sum (Nat.le_of_ble_eq_true rfl)) ⟨Nat.zero_le _, Nat.zero_le _⟩ dL_ends_223 h (fun v9 S9 h => ?_)
              refine g_iconst C (v := 3) dL_ends_226 (by decide) ?_
              refine g_icmp_ne C (tgt := 279) dL_ends_227 (by decide) h (fun h => ?_) (fun h => ?_)
              · refine g_aload_n C (q := 5) dL_ends_230 rfl rfl ?_
                refine g_bipush C (v := 8) dL_ends_231 (by decide) ?_
                refine g_callVI C (ci := 5) (As := [.int 8]) (np := 1) (st := []) (r := y0) rfl (by decide) (fun b10 q hq => c_X5_count S9 b10 (8 : Int32) q hq) gv_RL_X5_count rfl rfl dsX5_count rfl ⟨Nat.le_of_ble_eq_true rfl, Nat.le_of_ble_eq_true rfl⟩ rfl (cat_sum (Nat.le_of_ble_eq_true rfl)) ⟨Nat.zero_le _, Nat.zero_le _⟩ dL_ends_233 h (fun v10 S10 h => ?_)
                refine g_iload C (q := 2) dL_ends_236 rfl ?_
                refine g_iload C (q := 0) dL_ends_238 rfl ?_
                refine g_isub C dL_ends_240 ?_
                refine g_icmp_ne C (tgt := 279) dL_ends_241 (by decide) h (fun h => ?_) (fun h => ?_)
                · refine g_aload_n C (q := 5) dL_ends_244 rfl rfl ?_
                  refine g_bipush C (v := 9) dL_ends_245 (by decide) ?_
                  refine g_callVI C (ci := 5) (As := [.int 9]) (np := 1) (st := []) (r := y0) rfl (by decide) (fun b11 q hq => c_X5_count S10 b11 (9 : Int32) q hq) gv_RL_X5_count rfl rfl dsX5_count rfl ⟨Nat.le_of_ble_eq_true rfl, Nat.le_of_ble_eq_true rfl⟩ rfl (cat_sum (Nat.le_of_ble_eq_true rfl)) ⟨Nat.zero_le _, Nat.zero_le _⟩ dL_ends_247 h (fun v11 S11 h => ?_)
                  refine g_iload C (q := 10) dL_ends_250 rfl ?_
                  refine g_iload C (q := 0) dL_ends_252 rfl ?_
                  refine g_iadd C dL_ends_254 ?_
                  refine g_icmp_ne C (tgt := 279) dL_ends_255 (by decide) h (fun h => ?_) (fun h => ?_)
                  · refine g_aload_n C (q := 5) dL_ends_258 rfl rfl ?_
                    refine g_iload C (q := 8) dL_ends_259 rfl ?_
                    refine g_iconst C (v := 0) dL_ends_261 (by decide) ?_
                    refine g_callVI C (ci := 5) (As := [.int y5, .int 0]) (np := 2) (st := []) (r := y0) rfl (by decide) (fun b12 q hq => c_X5_tour S11 b12 y5 (0 : Int32) q hq) gv_RL_X5_tour rfl rfl dsX5_tour rfl ⟨Nat.le_of_ble_eq_true rfl, Nat.le_of_ble_eq_true rfl⟩ rfl (cat_sum (Nat.le_of_ble_eq_true rfl)) ⟨Nat.zero_le _, Nat.zero_le _⟩ dL_ends_262 h (fun v12 S12 h => ?_)
                    refine g_aload_n C (q := 5) dL_ends_265 rfl rfl ?_
                    refine g_iload C (q := 7) dL_ends_266 rfl ?_
                    refine g_iconst C (v := 0) dL_ends_268 (by decide) ?_
                    refine g_callVI C (ci := 5) (As := [.int y4, .int 0]) (np := 2) (st := [.int v12]) (r := y0) rfl (by decide) (fun b13 q hq => c_X5_tour S12 b13 y4 (0 : Int32) q hq) gv_RL_X5_tour rfl rfl dsX5_tour rfl ⟨Nat.le_of_ble_eq_true rfl, Nat.le_of_ble_eq_true rfl⟩ rfl (cat_sum (Nat.le_of_ble_eq_true rfl)) ⟨Nat.zero_le _, Nat.zero_le _⟩ dL_ends_269 h (fun v13 S13 h => ?_)
                    refine g_icmp_ne C (tgt := 279) dL_ends_272 (by decide) h (fun h => ?_) (fun h => ?_)
                    · refine g_iconst C (v := 1) dL_ends_275 (by decide) ?_
                      refine g_goto C (tgt := 280) dL_ends_276 (by decide) ?_
                      exact g_zret C hQ (by decide) dL_ends_280 h
                    · refine g_iconst C (v := 0) dL_ends_279 (by decide) ?_
                      exact g_zret C hQ (by decide) dL_ends_280 h
                  · refine g_iconst C (v := 0) dL_ends_279 (by decide) ?_
                    exact g_zret C hQ (by decide) dL_ends_280 h
                · refine g_iconst C (v := 0) dL_ends_279 (by decide) ?_
                  exact g_zret C hQ (by decide) dL_ends_280 h
              · refine g_iconst C (v := 0) dL_ends_279 (by decide) ?_
                exact g_zret C hQ (by decide) dL_ends_280 h
            · refine g_iconst C (v := 0) dL_ends_279 (by decide) ?_
              exact g_zret C hQ (by decide) dL_ends_280 h
set_option maxHeartbeats 4000000 in
set_option maxRecDepth 100000 in
theorem c_L_ends (S : Hp) (x0 : Option Nat) (x1 : Int32) (x2 : Int32) (x3 : Int32) (o : Int32 × Hp) (h : f_L_ends S x0 x1 x2 x3 = some o) : CtI yL_ends cL_ends 13 (some .boolean) rm_L_ends 0 0 [va_rf x0, .int x1, .int x2, .int x3] S o := by
  refine ct_I (own := RL) (by decide) rfl (by simp [lg_sl, va_rf_cat, catI, catJ, catD]) (fun X C hn hQ => ?_)
  have hn4 : 4 < xn X := by rw [hn]; decide
  have hn5 : 5 < xn X := by rw [hn]; decide
  have hn6 : 6 < xn X := by rw [hn]; decide
  have hn7 : 7 < xn X := by rw [hn]; decide
  unfold f_L_ends at h
  rw [show lv_args 0 [va_rf x0, .int x1, .int x2, .int x3] = [(0, va_rf x0), (1, .int x1), (2, .int x2), (3, .int x3)] by simp [lv_args, va_rf_cat, catI, catJ, catD]]
  refine g_iload_n C (q := 2) dL_ends_0 rfl rfl ?_
  refine g_aload_n C (q := 0) dL_ends_1 rfl rfl ?_
  refine g_iconst C (v := 3) dL_ends_2 (by decide) ?_
  refine g_callVI C (ci := 5) (As := [.int 3]) (np := 1) (st := [.int x2]) (r := x0) rfl (by decide) (fun b1 q hq => c_X5_count S b1 (3 : Int32) q hq) gv_RL_X5_count rfl rfl dsX5_count rfl ⟨Nat.le_of_ble_eq_true rfl, Nat.le_of_ble_eq_true rfl⟩ rfl (cat_sum (Nat.le_of_ble_eq_true rfl)) ⟨Nat.zero_le _, Nat.zero_le _⟩ dL_ends_3 h (fun v1 S1 h => ?_)
  refine g_callSI C (As := [.int x2, .int v1]) (np := 2) (st := []) (fun q hq => c_L_low S1 x2 v1 q hq) gs_RL_L_low rfl rfl dsL_low rfl ⟨Nat.le_of_ble_eq_true rfl, Nat.le_of_ble_eq_true rfl⟩ rfl (cat_sum (Nat.le_of_ble_eq_true rfl)) ⟨Nat.zero_le _, Nat.zero_le _⟩ dL_ends_6 h (fun v2 S2 h => ?_)
  refine g_istore C (i := 4) (lv' := [(4, .int v2), (0, va_rf x0), (1, .int x1), (2, .int x2), (3, .int x3)]) dL_ends_9 hn4 rfl ?_
  refine g_iload_n C (q := 4) dL_ends_11 rfl rfl ?_
  refine g_aload_n C (q := 1) dL_ends_12 rfl rfl ?_
  refine g_iconst C (v := 3) dL_ends_13 (by decide) ?_
  refine g_callVI C (ci := 5) (As := [.int 3]) (np := 1) (st := [.int x3]) (r := x0) rfl (by decide) (fun b2 q hq => c_X5_count S2 b2 (3 : Int32) q hq) gv_RL_X5_count rfl rfl dsX5_count rfl ⟨Nat.le_of_ble_eq_true rfl, Nat.le_of_ble_eq_true rfl⟩ rfl (cat_sum (Nat.le_of_ble_eq_true rfl)) ⟨Nat.zero_le _, Nat.zero_le _⟩ dL_ends_14 h (fun v3 S3 h => ?_)
  refine g_callSI C (As := [.int x3, .int v3]) (np := 2) (st := []) (fun q hq => c_L_low S3 x3 v3 q hq) gs_RL_L_low rfl rfl dsL_low rfl ⟨Nat.le_of_ble_eq_true rfl, Nat.le_of_ble_eq_true rfl⟩ rfl (cat_sum (Nat.le_of_ble_eq_true rfl)) ⟨Nat.zero_le _, Nat.zero_le _⟩ dL_ends_17 h (fun v4 S4 h => ?_)
  refine g_istore C (i := 5) (lv' := [(5, .int v4), (4, .int v2), (0, va_rf x0), (1, .int x1), (2, .int x2), (3, .int x3)]) dL_ends_20 hn5 rfl ?_
  refine g_aload_n C (q := 2) dL_ends_22 rfl rfl ?_
  refine g_iload C (q := 1) dL_ends_23 rfl ?_
  refine g_iconst C (v := 5) dL_ends_25 (by decide) ?_
  refine g_callVI C (ci := 5) (As := [.int v2, .int 5]) (np := 2) (st := []) (r := x0) rfl (by decide) (fun b3 q hq => c_X5_tour S4 b3 v2 (5 : Int32) q hq) gv_RL_X5_tour rfl rfl dsX5_tour rfl ⟨Nat.le_of_ble_eq_true rfl, Nat.le_of_ble_eq_true rfl⟩ rfl (cat_sum (Nat.le_of_ble_eq_true rfl)) ⟨Nat.zero_le _, Nat.zero_le _⟩ dL_ends_26 h (fun v5 S5 h => ?_)
  refine g_istore C (i := 6) (lv' := [(6, .int v5), (5, .int v4), (4, .int v2), (0, va_rf x0), (1, .int x1), (2, .int x2), (3, .int x3)]) dL_ends_29 hn6 rfl ?_
  refine g_aload_n C (q := 3) dL_ends_31 rfl rfl ?_
  refine g_bipush C (v := 9) dL_ends_32 (by decide) ?_
  refine g_callVI C (ci := 5) (As := [.int 9]) (np := 1) (st := []) (r := x0) rfl (by decide) (fun b4 q hq => c_X5_count S5 b4 (9 : Int32) q hq) gv_RL_X5_count rfl rfl dsX5_count rfl ⟨Nat.le_of_ble_eq_true rfl, Nat.le_of_ble_eq_true rfl⟩ rfl (cat_sum (Nat.le_of_ble_eq_true rfl)) ⟨Nat.zero_le _, Nat.zero_le _⟩ dL_ends_34 h (fun v6 S6 h => ?_)
  refine g_istore C (i := 7) (lv' := [(7, .int v6), (6, .int v5), (5, .int v4), (4, .int v2), (0, va_rf x0), (1, .int x1), (2, .int x2), (3, .int x3)]) dL_ends_37 hn7 rfl ?_
  refine g_aload_n C (q := 4) dL_ends_39 rfl rfl ?_
  refine g_iload C (q := 3) dL_ends_40 rfl ?_
  refine g_bipush C (v := 6) dL_ends_42 (by decide) ?_
  refine g_callVI C (ci := 5) (As := [.int v2, .int 6]) (np := 2) (st := []) (r := x0) rfl (by decide) (fun b5 q hq => c_X5_tour S6 b5 v2 (6 : Int32) q hq) gv_RL_X5_tour rfl rfl dsX5_tour rfl ⟨Nat.le_of_ble_eq_true rfl, Nat.le_of_ble_eq_true rfl⟩ rfl (cat_sum (Nat.le_of_ble_eq_true rfl)) ⟨Nat.zero_le _, Nat.zero_le _⟩ dL_ends_44 h (fun v7 S7 h => ?_)
  refine g_if_ne C (tgt := 54) dL_ends_47 (by decide) h (fun h => ?_) (fun h => ?_)
  · refine g_iconst C (v := 1) dL_ends_50 (by decide) ?_
    refine g_goto C (tgt := 55) dL_ends_51 (by decide) ?_
    refine g_sub (lv' := [(0, va_rf x0), (1, .int x1), (4, .int v2), (5, .int v4), (6, .int v5), (7, .int v6)]) [4, 5, 3, 2, 1, 0] rfl ?_
    exact w_L_ends_J55 C hn hQ S7 x0 x1 v2 v4 v5 v6 (1 : Int32) h
  · refine g_iconst C (v := 0) dL_ends_54 (by decide) ?_
    refine g_sub (lv' := [(0, va_rf x0), (1, .int x1), (4, .int v2), (5, .int v4), (6, .int v5), (7, .int v6)]) [4, 5, 3, 2, 1, 0] rfl ?_
    exact w_L_ends_J55 C hn hQ S7 x0 x1 v2 v4 v5 v6 (0 : Int32) h

abbrev rm_L_passes : Room := { frames := 7, cells := 0, slots := 0, locals := 164 }
theorem dsL_passes : yL_passes.cls ≠ "java/lang/invoke/MethodHandle" ∧ yL_passes.cls ≠ "java/lang/invoke/VarHandle" ∧ (parseMethodDescriptor yL_passes.desc).map (fun d => d.parameters.length) = some 3 := by decide +kernel
theorem gs_RL_L_digest : GoodIn wsL_law (va_wsS RL 146 yL_digest (.code yL_digest cL_digest 5 (some .long) :: wsL_law)) := good_S q378 q379 q351 q380
theorem gv_RL_X5_foretold : GoodIn wsL_law (wsV RL 139 RX5 yX5_foretold (.code yX5_foretold cX5_foretold 6 (some .double) :: wsL_law)) := good_V q550 q551 q552 q2 q553
theorem gv_RL_X5_keep : GoodIn wsL_law (wsV RL 135 RX5 yX5_keep (.code yX5_keep cX5_keep 1 (some .int) :: wsL_law)) := good_V q546 q547 q548 q2 q549
theorem gv_RL_X5_pass : GoodIn wsL_law (wsV RL 143 RX5 yX5_pass (.code yX5_pass cX5_pass 4 (some .int) :: wsL_law)) := good_V q561 q562 q563 q2 q564
theorem gv_RL_X5_restore : GoodIn wsL_law (wsV RL 150 RX5 yX5_restore (.code yX5_restore cX5_restore 1 (some .int) :: wsL_law)) := good_V q151 q152 q153 q2 q154
def f_L_passes_J66 (S : Hp) (y0 : Option Nat) (y1 : Int32) (y2 : Int32) (y3 : Int32) (y6 : Int32) (y7 : Int64) (z0 : Int32) : Option (Int32 × Hp) :=
 if z0 = 0 then
 some ((0 : Int32), S)
 else
 ob S 5 y0 fun b1 => cl (f_X5_count S b1 (0 : Int32)) fun v1 S1 =>
 if v1 = ((y3 + y1) + y2) then
 ob S1 5 y0 fun b2 => cl (f_X5_restore S1 b2 ) fun v2 S2 =>
 if v2 = y3 then
 ob S2 5 y0 fun b3 => cl (f_X5_pass S2 b3 (31 : Int32)) fun v3 S3 =>
 if v3 = (-2) then
 ob S3 5 y0 fun b4 => cl (f_X5_pass S3 b4 y1) fun v4 S4 =>
 ob S4 5 y0 fun b5 => cl (f_X5_pass S4 b5 y2) fun v5 S5 =>
 if (v4 + v5) = y6 then
 cl (f_L_digest S5 y0) fun j1 S6 =>
 if (lg_cmp j1 y7) = 0 then
 some ((1 : Int32), S6)
 else
 some ((0 : Int32), S6)
 else
 some ((0 : Int32), S5)
 else
 some ((0 : Int32), S3)
 else
 some ((0 : Int32), S2)
 else
 some ((0 : Int32), S1)

def f_L_passes_J61 (S : Hp) (y0 : Option Nat) (y1 : Int32) (y2 : Int32) (y3 : Int32) (y6 : Int32) (y7 : Int64) : Option (Int32 × Hp) :=
 f_L_passes_J66 S y0 y1 y2 y3 y6 y7 (1 : Int32)

def f_L_passes_J65 (S : Hp) (y0 : Option Nat) (y1 : Int32) (y2 : Int32) (y3 : Int32) (y6 : Int32) (y7 : Int64) : Option (Int32 × Hp) :=
 f_L_passes_J66 S y0 y1 y2 y3 y6 y7 (0 : Int32)
def f_L_passes (S : Hp) (x0 : Option Nat) (x1 : Int32) (x2 : Int32) : Option (Int32 × Hp) :=
 ob S 5 x0 fun b1 => cl (f_X5_keep S b1 ) fun v1 S1 =>
 ob S1 5 x0 fun b2 => cl (f_X5_foretold S1 b2 (0 : Int32) (x1 + x2)) fun e1 S2 =>
 ob S2 5 x0 fun b3 => cl (f_X5_pass S2 b3 (x1 + x2)) fun v2 S3 =>
 cl (f_L_digest S3 x0) fun j1 S4 =>
 ob S4 5 x0 fun b4 => cl (f_X5_thickness S4 b4 (0 : Int32)) fun e2 S5 =>
 if (Op.cmpValue (FP.dcmp e1 e2) CmpOp.l) = 0 then
 f_L_passes_J61 S5 x0 x1 x2 v1 v2 j1
 else
 if (Op.cmpValue (FP.dcmp e1 e1) CmpOp.l) = 0 then
 f_L_passes_J65 S5 x0 x1 x2 v1 v2 j1
 else
 if (Op.cmpValue (FP.dcmp e2 e2) CmpOp.l) = 0 then
 f_L_passes_J65 S5 x0 x1 x2 v1 v2 j1
 else
 f_L_passes_J61 S5 x0 x1 x2 v1 v2 j1
set_option maxHeartbeats 4000000 in
set_option maxRecDepth 100000 in
theorem w_L_passes_J66 {X : Cx} (C : CxOK X cL_passes RL rm_L_passes) (hn : xn X = 13) {S0 : Hp} {o : Int32 × Hp} (hQ : QI X (some .boolean) S0 0 0 o)  (S : Hp) (y0 : Option Nat) (y1 : Int32) (y2 : Int32) (y3 : Int32) (y6 : Int32) (y7 : Int64) (z0 : Int32) (h : f_L_passes_J66 S y0 y1 y2 y3 y6 y7 z0 = some o) : GW X 0 0 S 66 [(0, va_rf y0), (1, .int y1), (2, .int y2), (3, .int y3), (6, .int y6), (7, .long y7)] [.int z0] := by
  have hn11 : 11 < xn X := by rw [hn]; decide
  have hn12 : 12 < xn X := by rw [hn]; decide
  unfold f_L_passes_J66 at h
  refine g_istore C (i := 11) (lv' := [(11, .int z0), (0, va_rf y0), (1, .int y1), (2, .int y2), (3, .int y3), (6, .int y6), (7, .long y7)]) dL_passes_66 hn11 rfl ?_
  refine g_iload C (q := 0) dL_passes_68 rfl ?_
  refine g_if_eq C (tgt := 105) dL_passes_70 (by decide) h (fun h => ?_) (fun h => ?_)
  · refine g_iconst C (v := 0) dL_passes_105 (by decide) ?_
    exact g_zret C hQ (by decide) dL_passes_106 h
  · refine g_aload_n C (q := 1) dL_passes_73 rfl rfl ?_
    refine g_iconst C (v := 0) dL_passes_74 (by decide) ?_
    refine g_callVI C (ci := 5) (As := [.int 0]) (np := 1) (st := []) (r := y0) rfl (by decide) (fun b1 q hq => c_X5_count S b1 (0 : Int32) q hq) gv_RL_X5_count rfl rfl dsX5_count rfl ⟨Nat.le_of_ble_eq_true rfl, Nat.le_of_ble_eq_true rfl⟩ rfl (cat_sum (Nat.le_of_ble_eq_true rfl)) ⟨Nat.zero_le _, Nat.zero_le _⟩ dL_passes_75 h (fun v1 S1 h => ?_)
    refine g_iload_n C (q := 4) dL_passes_78 rfl rfl ?_
    refine g_iload_n C (q := 2) dL_passes_79 rfl rfl ?_
    refine g_iadd C dL_passes_80 ?_
    refine g_iload_n C (q := 3) dL_passes_81 rfl rfl ?_
    refine g_iadd C dL_passes_82 ?_
    refine g_icmp_ne C (tgt := 105) dL_passes_83 (by decide) h (fun h => ?_) (fun h => ?_)
    · refine g_aload_n C (q := 1) dL_passes_86 rfl rfl ?_
      refine g_callVI C (ci := 5) (As := []) (np := 0) (st := []) (r := y0) rfl (by decide) (fun b2 q hq => c_X5_restore S1 b2  q hq) gv_RL_X5_restore rfl rfl dsX5_restore rfl ⟨Nat.le_of_ble_eq_true rfl, Nat.le_of_ble_eq_true rfl⟩ rfl (cat_sum (Nat.le_of_ble_eq_true rfl)) ⟨Nat.zero_le _, Nat.zero_le _⟩ dL_passes_87 h (fun v2 S2 h => ?_)
      refine g_iload_n C (q := 4) dL_passes_90 rfl rfl ?_
      refine g_icmp_ne C (tgt := 105) dL_passes_91 (by decide) h (fun h => ?_) (fun h => ?_)
      · refine g_aload_n C (q := 1) dL_passes_94 rfl rfl ?_
        refine g_bipush C (v := 31) dL_passes_95 (by decide) ?_
        refine g_callVI C (ci := 5) (As := [.int 31]) (np := 1) (st := []) (r := y0) rfl (by decide) (fun b3 q hq => c_X5_pass S2 b3 (31 : Int32) q hq) gv_RL_X5_pass rfl rfl dsX5_pass rfl ⟨Nat.le_of_ble_eq_true rfl, Nat.le_of_ble_eq_true rfl⟩ rfl (cat_sum (Nat.le_of_ble_eq_true rfl)) ⟨Nat.zero_le _, Nat.zero_le _⟩ dL_passes_97 h (fun v3 S3 h => ?_)
        refine g_bipush C (v := (-2)) dL_passes_100 (by decide) ?_
        refine g_icmp_eq C (tgt := 107) dL_passes_102 (by decide) h (fun h => ?_) (fun h => ?_)
        · refine g_aload_n C (q := 1) dL_passes_107 rfl rfl ?_
          refine g_iload_n C (q := 2) dL_passes_108 rfl rfl ?_
          refine g_callVI C (ci := 5) (As := [.int y1]) (np := 1) (st := []) (r := y0) rfl (by decide) (fun b4 q hq => c_X5_pass S3 b4 y1 q hq) gv_RL_X5_pass rfl rfl dsX5_pass rfl ⟨Nat.le_of_ble_eq_true rfl, Nat.le_of_ble_eq_true rfl⟩ rfl (cat_sum (Nat.le_of_ble_eq_true rfl)) ⟨Nat.zero_le _, Nat.zero_le _⟩ dL_passes_109 h (fun v4 S4 h => ?_)
          refine g_istore C (i := 12) (lv' := [(12, .int v4), (11, .int z0), (0, va_rf y0), (1, .int y1), (2, .int y2), (3, .int y3), (6, .int y6), (7, .long y7)]) dL_passes_112 hn12 rfl ?_
          refine g_iload C (q := 0) dL_passes_114 rfl ?_
          refine g_aload_n C (q := 2) dL_passes_116 rfl rfl ?_
          refine g_iload_n C (q := 4) dL_passes_117 rfl rfl ?_
          refine g_callVI C (ci := 5) (As := [.int y2]) (np := 1) (st := [.int v4]) (r := y0) rfl (by decide) (fun b5 q hq => c_X5_pass S4 b5 y2 q hq) gv_RL_X5_pass rfl rfl dsX5_pass rfl ⟨Nat.le_of_ble_eq_true rfl, Nat.le_of_ble_eq_true rfl⟩ rfl (cat_sum (Nat.le_of_ble_eq_true rfl)) ⟨Nat.zero_le _, Nat.zero_le _⟩ dL_passes_118 h (fun v5 S5 h => ?_)
          refine g_iadd C dL_passes_121 ?_
          refine g_iload C (q := 6) dL_passes_122 rfl ?_
          refine g_icmp_ne C (tgt := 141) dL_passes_124 (by decide) h (fun h => ?_) (fun h => ?_)
          · refine g_aload_n C (q := 2) dL_passes_127 rfl rfl ?_
            refine g_callSJ C (As := [va_rf y0]) (np := 1) (st := []) (fun q hq => c_L_digest S5 y0 q hq) gs_RL_L_digest rfl rfl dsL_digest rfl ⟨Nat.le_of_ble_eq_true rfl, Nat.le_of_ble_eq_true rfl⟩ rfl (cat_sum (Nat.le_of_ble_eq_true rfl)) ⟨Nat.zero_le _, Nat.zero_le _⟩ dL_passes_128 h (fun j1 S6 h => ?_)
            refine g_lload C (q := 7) dL_passes_131 rfl ?_
            refine g_lcmp C dL_passes_133 ?_
            refine g_if_ne C (tgt := 141) dL_passes_134 (by decide) h (fun h => ?_) (fun h => ?_)
            · refine g_iconst C (v := 1) dL_passes_137 (by decide) ?_
              refine g_goto C (tgt := 142) dL_passes_138 (by decide) ?_
              exact g_zret C hQ (by decide) dL_passes_142 h
            · refine g_iconst C (v := 0) dL_passes_141 (by decide) ?_
              exact g_zret C hQ (by decide) dL_passes_142 h
          · refine g_iconst C (v := 0) dL_passes_141 (by decide) ?_
            exact g_zret C hQ (by decide) dL_passes_142 h
        · refine g_iconst C (v := 0) dL_passes_105 (by decide) ?_
          exact g_zret C hQ (by decide) dL_passes_106 h
      · refine g_iconst C (v := 0) dL_passes_105 (by decide) ?_
        exact g_zret C hQ (by decide) dL_passes_106 h
    · refine g_iconst C (v := 0) dL_passes_105 (by decide) ?_
      exact g_zret C hQ (by decide) dL_passes_106 h

set_option maxHeartbeats 4000000 in
set_option maxRecDepth 100000 in
theorem w_L_passes_J61 {X : Cx} (C : CxOK X cL_passes RL rm_L_passes) (hn : xn X = 13) {S0 : Hp} {o : Int32 × Hp} (hQ : QI X (some .boolean) S0 0 0 o)  (S : Hp) (y0 : Option Nat) (y1 : Int32) (y2 : Int32) (y3 : Int32) (y6 : Int32) (y7 : Int64) (h : f_L_passes_J61 S y0 y1 y2 y3 y6 y7 = some o) : GW X 0 0 S 61 [(0, va_rf y0), (1, .int y1), (2, .int y2), (3, .int y3), (6, .int y6), (7, .long y7)] [] := by
  unfold f_L_passes_J61 at h
  refine g_iconst C (v := 1) dL_passes_61 (by decide) ?_
  refine g_goto C (tgt := 66) dL_passes_62 (by decide) ?_
  refine g_sub (lv' := [(0, va_rf y0), (1, .int y1), (2, .int y2), (3, .int y3), (6, .int y6), (7, .long y7)]) [0, 1, 2, 3, 4, 5] rfl ?_
  exact w_L_passes_J66 C hn hQ S y0 y1 y2 y3 y6 y7 (1 : Int32) h

set_option maxHeartbeats 4000000 in
set_option maxRecDepth 100000 in
theorem w_L_passes_J65 {X : Cx} (C : CxOK X cL_passes RL rm_L_passes) (hn : xn X = 13) {S0 : Hp} {o : Int32 × Hp} (hQ : QI X (some .boolean) S0 0 0 o)  (S : Hp) (y0 : Option Nat) (y1 : Int32) (y2 : Int32) (y3 : Int32) (y6 : Int32) (y7 : Int64) (h : f_L_passes_J65 S y0 y1 y2 y3 y6 y7 = some o) : GW X 0 0 S 65 [(0, va_rf y0), (1, .int y1), (2, .int y2), (3, .int y3), (6, .int y6), (7, .long y7)] [] := by
  unfold f_L_passes_J65 at h
  refine g_iconst C (v := 0) dL_passes_65 (by decide) ?_
  refine g_sub (lv' := [(0, va_rf y0), (1, .int y1), (2, .int y2), (3, .int y3), (6, .int y6), (7, .long y7)]) [0, 1, 2, 3, 4, 5] rfl ?_
  exact w_L_passes_J66 C hn hQ S y0 y1 y2 y3 y6 y7 (0 : Int32) h
set_option maxHeartbeats 4000000 in
set_option maxRecDepth 100000 in
theorem c_L_passes (S : Hp) (x0 : Option Nat) (x1 : Int32) (x2 : Int32) (o : Int32 × Hp) (h : f_L_passes S x0 x1 x2 = some o) : CtI yL_passes cL_passes 13 (some .boolean) rm_L_passes 0 0 [va_rf x0, .int x1, .int x2] S o := by
  refine ct_I (own := RL) (by decide) rfl (by simp [lg_sl, va_rf_cat, catI, catJ, catD]) (fun X C hn hQ => ?_)
  have hn3 : 3 < xn X := by rw [hn]; decide
  have hn5 : 5 < xn X := by rw [hn]; decide
  have hn6 : 6 < xn X := by rw [hn]; decide
  have hn8 : 8 < xn X := by rw [hn]; decide
  have hn10 : 10 < xn X := by rw [hn]; decide
  unfold f_L_passes at h
  rw [show lv_args 0 [va_rf x0, .int x1, .int x2] = [(0, va_rf x0), (1, .int x1), (2, .int x2)] by simp [lv_args, va_rf_cat, catI, catJ, catD]]
  refine g_aload_n C (q := 0) dL_passes_0 rfl rfl ?_
  refine g_callVI C (ci := 5) (As := []) (np := 0) (st := []) (r := x0) rfl (by decide) (fun b1 q hq => c_X5_keep S b1  q hq) gv_RL_X5_keep rfl rfl dsX5_keep rfl ⟨Nat.le_of_ble_eq_true rfl, Nat.le_of_ble_eq_true rfl⟩ rfl (cat_sum (Nat.le_of_ble_eq_true rfl)) ⟨Nat.zero_le _, Nat.zero_le _⟩ dL_passes_1 h (fun v1 S1 h => ?_)
  refine g_istore_n C (i := 3) (lv' := [(3, .int v1), (0, va_rf x0), (1, .int x1), (2, .int x2)]) dL_passes_4 rfl hn3 rfl ?_
  refine g_aload_n C (q := 1) dL_passes_5 rfl rfl ?_
  refine g_iconst C (v := 0) dL_passes_6 (by decide) ?_
  refine g_iload_n C (q := 2) dL_passes_7 rfl rfl ?_
  refine g_iload_n C (q := 3) dL_passes_8 rfl rfl ?_
  refine g_iadd C dL_passes_9 ?_
  refine g_callVD C (ci := 5) (As := [.int 0, .int (x1 + x2)]) (np := 2) (st := []) (r := x0) rfl (by decide) (fun b2 q hq => c_X5_foretold S1 b2 (0 : Int32) (x1 + x2) q hq) gv_RL_X5_foretold rfl rfl dsX5_foretold rfl ⟨Nat.le_of_ble_eq_true rfl, Nat.le_of_ble_eq_true rfl⟩ rfl (cat_sum (Nat.le_of_ble_eq_true rfl)) ⟨Nat.zero_le _, Nat.zero_le _⟩ dL_passes_10 h (fun e1 S2 h => ?_)
  refine g_dstore C (i := 4) (lv' := [(4, .double e1), (3, .int v1), (0, va_rf x0), (1, .int x1), (2, .int x2)]) dL_passes_13 hn5 rfl ?_
  refine g_aload_n C (q := 2) dL_passes_15 rfl rfl ?_
  refine g_iload_n C (q := 3) dL_passes_16 rfl rfl ?_
  refine g_iload_n C (q := 4) dL_passes_17 rfl rfl ?_
  refine g_iadd C dL_passes_18 ?_
  refine g_callVI C (ci := 5) (As := [.int (x1 + x2)]) (np := 1) (st := []) (r := x0) rfl (by decide) (fun b3 q hq => c_X5_pass S2 b3 (x1 + x2) q hq) gv_RL_X5_pass rfl rfl dsX5_pass rfl ⟨Nat.le_of_ble_eq_true rfl, Nat.le_of_ble_eq_true rfl⟩ rfl (cat_sum (Nat.le_of_ble_eq_true rfl)) ⟨Nat.zero_le _, Nat.zero_le _⟩ dL_passes_19 h (fun v2 S3 h => ?_)
  refine g_istore C (i := 6) (lv' := [(6, .int v2), (4, .double e1), (3, .int v1), (0, va_rf x0), (1, .int x1), (2, .int x2)]) dL_passes_22 hn6 rfl ?_
  refine g_aload_n C (q := 3) dL_passes_24 rfl rfl ?_
  refine g_callSJ C (As := [va_rf x0]) (np := 1) (st := []) (fun q hq => c_L_digest S3 x0 q hq) gs_RL_L_digest rfl rfl dsL_digest rfl ⟨Nat.le_of_ble_eq_true rfl, Nat.le_of_ble_eq_true rfl⟩ rfl (cat_sum (Nat.le_of_ble_eq_true rfl)) ⟨Nat.zero_le _, Nat.zero_le _⟩ dL_passes_25 h (fun j1 S4 h => ?_)
  refine g_lstore C (i := 7) (lv' := [(7, .long j1), (6, .int v2), (4, .double e1), (3, .int v1), (0, va_rf x0), (1, .int x1), (2, .int x2)]) dL_passes_28 hn8 rfl ?_
  refine g_aload_n C (q := 4) dL_passes_30 rfl rfl ?_
  refine g_iconst C (v := 0) dL_passes_31 (by decide) ?_
  refine g_callVD C (ci := 5) (As := [.int 0]) (np := 1) (st := []) (r := x0) rfl (by decide) (fun b4 q hq => c_X5_thickness S4 b4 (0 : Int32) q hq) gv_RL_X5_thickness rfl rfl dsX5_thickness rfl ⟨Nat.le_of_ble_eq_true rfl, Nat.le_of_ble_eq_true rfl⟩ rfl (cat_sum (Nat.le_of_ble_eq_true rfl)) ⟨Nat.zero_le _, Nat.zero_le _⟩ dL_passes_32 h (fun e2 S5 h => ?_)
  refine g_dstore C (i := 9) (lv' := [(9, .double e2), (7, .long j1), (6, .int v2), (4, .double e1), (3, .int v1), (0, va_rf x0), (1, .int x1), (2, .int x2)]) dL_passes_35 hn10 rfl ?_
  refine g_dload C (q := 3) dL_passes_37 rfl ?_
  refine g_dload C (q := 0) dL_passes_39 rfl ?_
  refine g_dcmp C dL_passes_41 ?_
  refine g_if_eq C (tgt := 61) dL_passes_42 (by decide) h (fun h => ?_) (fun h => ?_)
  · refine g_sub (lv' := [(0, va_rf x0), (1, .int x1), (2, .int x2), (3, .int v1), (6, .int v2), (7, .long j1)]) [5, 6, 7, 4, 2, 1] rfl ?_
    exact w_L_passes_J61 C hn hQ S5 x0 x1 x2 v1 v2 j1 h
  · refine g_dload C (q := 3) dL_passes_45 rfl ?_
    refine g_dload C (q := 3) dL_passes_47 rfl ?_
    refine g_dcmp C dL_passes_49 ?_
    refine g_if_eq C (tgt := 65) dL_passes_50 (by decide) h (fun h => ?_) (fun h => ?_)
    · refine g_sub (lv' := [(0, va_rf x0), (1, .int x1), (2, .int x2), (3, .int v1), (6, .int v2), (7, .long j1)]) [5, 6, 7, 4, 2, 1] rfl ?_
      exact w_L_passes_J65 C hn hQ S5 x0 x1 x2 v1 v2 j1 h
    · refine g_dload C (q := 0) dL_passes_53 rfl ?_
      refine g_dload C (q := 0) dL_passes_55 rfl ?_
      refine g_dcmp C dL_passes_57 ?_
      refine g_if_eq C (tgt := 65) dL_passes_58 (by decide) h (fun h => ?_) (fun h => ?_)
      · refine g_sub (lv' := [(0, va_rf x0), (1, .int x1), (2, .int x2), (3, .int v1), (6, .int v2), (7, .long j1)]) [5, 6, 7, 4, 2, 1] rfl ?_
        exact w_L_passes_J65 C hn hQ S5 x0 x1 x2 v1 v2 j1 h
      · refine g_sub (lv' := [(0, va_rf x0), (1, .int x1), (2, .int x2), (3, .int v1), (6, .int v2), (7, .long j1)]) [5, 6, 7, 4, 2, 1] rfl ?_
        exact w_L_passes_J61 C hn hQ S5 x0 x1 x2 v1 v2 j1 h

abbrev rm_L_tour : Room := { frames := 6, cells := 0, slots := 0, locals := 140 }
theorem dsL_tour : yL_tour.cls ≠ "java/lang/invoke/MethodHandle" ∧ yL_tour.cls ≠ "java/lang/invoke/VarHandle" ∧ (parseMethodDescriptor yL_tour.desc).map (fun d => d.parameters.length) = some 2 := by decide +kernel
theorem gv_RL_X5_needed : GoodIn wsL_law (wsV RL 49 RX5 yX5_needed (.code yX5_needed cX5_needed 3 (some .double) :: wsL_law)) := good_V q72 q73 q74 q2 q75
def f_L_tour_J572 (S : Hp) (y0 : Option Nat) (y1 : Int32) (y11 : Int32) : Option (Int32 × Hp) :=
 ob S 5 y0 fun b1 => cl (f_X5_tour S b1 y1 (4 : Int32)) fun v1 S1 =>
 if 4 < v1 then
 some ((0 : Int32), S1)
 else
 ob S1 5 y0 fun b2 => cl (f_X5_tour S1 b2 y1 (3 : Int32)) fun v2 S2 =>
 if 12 < v2 then
 some ((0 : Int32), S2)
 else
 ob S2 5 y0 fun b3 => cl (f_X5_tour S2 b3 y1 (4 : Int32)) fun v3 S3 =>
 ob S3 5 y0 fun b4 => cl (f_X5_rope S3 b4 y1 v3 (0 : Int32)) fun v4 S4 =>
 if v4 = (-5) then
 ob S4 5 y0 fun b5 => cl (f_X5_tour S4 b5 y1 (11 : Int32)) fun v5 S5 =>
 if v5 = (-2) then
 if y11 = 0 then
 some ((1 : Int32), S5)
 else
 ob S5 5 y0 fun b6 => cl (f_X5_count S5 b6 (1 : Int32)) fun v6 S6 =>
 if v6 ≤ 0 then
 some ((0 : Int32), S6)
 else
 some ((1 : Int32), S6)
 else
 some ((0 : Int32), S5)
 else
 some ((0 : Int32), S4)

def f_L_tour_J553 (S : Hp) (y0 : Option Nat) (y1 : Int32) (y10 : Int32) (y11 : Int32) : Option (Int32 × Hp) :=
 if y10 = 0 then
 ob S 5 y0 fun b1 => cl (f_X5_tour S b1 y1 (0 : Int32)) fun v1 S1 =>
 ob S1 5 y0 fun b2 => cl (f_X5_count S1 b2 (0 : Int32)) fun v2 S2 =>
 if v1 < v2 then
 some ((0 : Int32), S2)
 else
 f_L_tour_J572 S2 y0 y1 y11
 else
 f_L_tour_J572 S y0 y1 y11

def f_L_tour_J529 (S : Hp) (y0 : Option Nat) (y1 : Int32) (y10 : Int32) (y11 : Int32) : Option (Int32 × Hp) :=
 if y10 = 3 then
 ob S 5 y0 fun b1 => cl (f_X5_tour S b1 y1 (3 : Int32)) fun v1 S1 =>
 if v1 = 0 then
 ob S1 5 y0 fun b2 => cl (f_X5_tour S1 b2 y1 (4 : Int32)) fun v2 S2 =>
 if v2 = 0 then
 f_L_tour_J553 S2 y0 y1 y10 y11
 else
 some ((0 : Int32), S2)
 else
 some ((0 : Int32), S1)
 else
 f_L_tour_J553 S y0 y1 y10 y11

def f_L_tour_J511 (S : Hp) (y0 : Option Nat) (y1 : Int32) (y10 : Int32) (y11 : Int32) (z0 : Int32) (z1 : Int32) : Option (Int32 × Hp) :=
 if z1 = z0 then
 if y10 < 2 then
 f_L_tour_J529 S y0 y1 y10 y11
 else
 ob S 5 y0 fun b1 => cl (f_X5_tour S b1 y1 (5 : Int32)) fun v1 S1 =>
 if v1 = 0 then
 f_L_tour_J529 S1 y0 y1 y10 y11
 else
 some ((0 : Int32), S1)
 else
 some ((0 : Int32), S)

def f_L_tour_J500 (S : Hp) (y0 : Option Nat) (y1 : Int32) (y10 : Int32) (y11 : Int32) (z0 : Int32) : Option (Int32 × Hp) :=
 if y10 = 2 then
 f_L_tour_J511 S y0 y1 y10 y11 (1 : Int32) z0
 else
 f_L_tour_J511 S y0 y1 y10 y11 (0 : Int32) z0

def f_L_tour_J482 (S : Hp) (y0 : Option Nat) (y1 : Int32) (y10 : Int32) (y11 : Int32) (z0 : Int32) (z1 : Int32) : Option (Int32 × Hp) :=
 if z1 = z0 then
 ob S 5 y0 fun b1 => cl (f_X5_tour S b1 y1 (7 : Int32)) fun v1 S1 =>
 if v1 < 0 then
 f_L_tour_J500 S1 y0 y1 y10 y11 (0 : Int32)
 else
 f_L_tour_J500 S1 y0 y1 y10 y11 (1 : Int32)
 else
 some ((0 : Int32), S)

def f_L_tour_J439 (S : Hp) (y0 : Option Nat) (y1 : Int32) (y3 : Int32) (y6 : UInt64) (y9 : Int32) (y10 : Int32) (z0 : Int32) : Option (Int32 × Hp) :=
 ob S 5 y0 fun b1 => cl (f_X5_needed S b1 y1) fun e1 S1 =>
 if (Op.cmpValue (FP.dcmp e1 y6) CmpOp.l) = 0 then
 ob S1 5 y0 fun b2 => cl (f_X5_tour S1 b2 y1 (8 : Int32)) fun v1 S2 =>
 if v1 = y3 then
 ob S2 5 y0 fun b3 => cl (f_X5_tour S2 b3 y1 (10 : Int32)) fun v2 S3 =>
 if y10 = 0 then
 f_L_tour_J482 S3 y0 y1 y10 z0 y9 v2
 else
 f_L_tour_J482 S3 y0 y1 y10 z0 (-5 : Int32) v2
 else
 some ((0 : Int32), S2)
 else
 some ((0 : Int32), S1)

def f_L_tour_J438 (S : Hp) (y0 : Option Nat) (y1 : Int32) (y3 : Int32) (y6 : UInt64) (y9 : Int32) (y10 : Int32) : Option (Int32 × Hp) :=
 f_L_tour_J439 S y0 y1 y3 y6 y9 y10 (0 : Int32)

def f_L_tour_J413 (S : Hp) (y0 : Option Nat) (y1 : Int32) (y3 : Int32) (y6 : UInt64) (z0 : Int32) : Option (Int32 × Hp) :=
 ob S 5 y0 fun b1 => cl (f_X5_tour S b1 y1 (6 : Int32)) fun v1 S1 =>
 if v1 = 1 then
 if y3 ≤ 0 then
 f_L_tour_J438 S1 y0 y1 y3 y6 z0 v1
 else
 f_L_tour_J439 S1 y0 y1 y3 y6 z0 v1 (1 : Int32)
 else
 f_L_tour_J438 S1 y0 y1 y3 y6 z0 v1

def f_L_tour_J408 (S : Hp) (y0 : Option Nat) (y1 : Int32) (y3 : Int32) (y6 : UInt64) : Option (Int32 × Hp) :=
 f_L_tour_J413 S y0 y1 y3 y6 (3 : Int32)

def f_L_tour_J369 (kout : Hp → Option Nat → Int32 → Int32 → Int32 → UInt64 → Int32 → Int32 → Option (Int32 × Hp)) (S : Hp) (y0 : Option Nat) (y1 : Int32) (y3 : Int32) (y5 : Int32) (y6 : UInt64) (y9 : Int32) (z0 : Int32) : Option (Int32 × Hp) :=
 bnd (y9 + 1) fun v1 =>
 kout S y0 y1 y3 y5 y6 z0 v1

def f_L_tour_J368 (kout : Hp → Option Nat → Int32 → Int32 → Int32 → UInt64 → Int32 → Int32 → Option (Int32 × Hp)) (S : Hp) (y0 : Option Nat) (y1 : Int32) (y3 : Int32) (y5 : Int32) (y6 : UInt64) (y9 : Int32) : Option (Int32 × Hp) :=
 f_L_tour_J369 kout S y0 y1 y3 y5 y6 y9 (0 : Int32)

def f_L_tour_J364 (kout : Hp → Option Nat → Int32 → Int32 → Int32 → UInt64 → Int32 → Int32 → Option (Int32 × Hp)) (S : Hp) (y0 : Option Nat) (y1 : Int32) (y3 : Int32) (y5 : Int32) (y6 : UInt64) (y9 : Int32) : Option (Int32 × Hp) :=
 f_L_tour_J369 kout S y0 y1 y3 y5 y6 y9 (1 : Int32)

def f_L_tour_J335 (kout : Hp → Option Nat → Int32 → Int32 → Int32 → UInt64 → Int32 → Int32 → Option (Int32 × Hp)) (S : Hp) (y0 : Option Nat) (y1 : Int32) (y3 : Int32) (y5 : Int32) (y6 : UInt64) (y8 : Int32) (y9 : Int32) (y10 : Int32) (z0 : Int32) (z1 : Int32) : Option (Int32 × Hp) :=
 if z1 = z0 then
 if y8 = 0 then
 f_L_tour_J368 kout S y0 y1 y3 y5 y6 y9
 else
 ob S 5 y0 fun b1 => cl (f_X5_tour S b1 y1 (2 : Int32)) fun v1 S1 =>
 if ((v1 >>> (y9 &&& 31)) &&& 1) = 0 then
 f_L_tour_J364 kout S1 y0 y1 y3 y5 y6 y9
 else
 if y10 = 0 then
 f_L_tour_J368 kout S1 y0 y1 y3 y5 y6 y9
 else
 f_L_tour_J364 kout S1 y0 y1 y3 y5 y6 y9
 else
 some ((0 : Int32), S)

def f_L_tour_J316 (kout : Hp → Option Nat → Int32 → Int32 → Int32 → UInt64 → Int32 → Int32 → Option (Int32 × Hp)) (S : Hp) (y0 : Option Nat) (y1 : Int32) (y3 : Int32) (y5 : Int32) (y6 : UInt64) (y8 : Int32) (y9 : Int32) (z0 : Int32) : Option (Int32 × Hp) :=
 ob S 5 y0 fun b1 => cl (f_X5_holds S b1 y1 y9) fun v1 S1 =>
 if z0 = 0 then
 f_L_tour_J335 kout S1 y0 y1 y3 y5 y6 y8 y9 z0 (0 : Int32) v1
 else
 f_L_tour_J335 kout S1 y0 y1 y3 y5 y6 y8 y9 z0 (1 : Int32) v1

def f_L_tour_L289_b (rec : Hp → Option Nat → Int32 → Int32 → Int32 → UInt64 → Int32 → Int32 → Option (Int32 × Hp)) (S : Hp) (y0 : Option Nat) (y1 : Int32) (y3 : Int32) (y5 : Int32) (y6 : UInt64) (y8 : Int32) (y9 : Int32) : Option (Int32 × Hp) :=
 ob S 5 y0 fun b1 => cl (f_X5_count S b1 (2 : Int32)) fun v1 S1 =>
 if v1 ≤ y9 then
 ob S1 5 y0 fun b2 => cl (f_X5_tour S1 b2 y1 (3 : Int32)) fun v2 S2 =>
 if v2 = 0 then
 f_L_tour_J413 S2 y0 y1 y3 y6 (1 : Int32)
 else
 if y8 = 0 then
 f_L_tour_J413 S2 y0 y1 y3 y6 (2 : Int32)
 else
 if 0 < y3 then
 f_L_tour_J408 S2 y0 y1 y3 y6
 else
 if y5 = 0 then
 f_L_tour_J408 S2 y0 y1 y3 y6
 else
 f_L_tour_J413 S2 y0 y1 y3 y6 (0 : Int32)
 else
 ob S1 5 y0 fun b3 => cl (f_X5_thickness S1 b3 y9) fun e1 S3 =>
 if (Op.cmpValue (FP.dcmp e1 y6) CmpOp.l) < 0 then
 f_L_tour_J316 rec S3 y0 y1 y3 y5 y6 y8 y9 (0 : Int32)
 else
 f_L_tour_J316 rec S3 y0 y1 y3 y5 y6 y8 y9 (1 : Int32)
def f_L_tour_L289 : Nat → Hp → Option Nat → Int32 → Int32 → Int32 → UInt64 → Int32 → Int32 → Option (Int32 × Hp)
  | 0 => fun _ _ _ _ _ _ _ _ => none
  | n + 1 => f_L_tour_L289_b (f_L_tour_L289 n)

def f_L_tour_J262 (kout : Hp → Option Nat → Int32 → Int32 → Int32 → Int32 → Int32 → Int32 → Option (Int32 × Hp)) (S : Hp) (y0 : Option Nat) (y1 : Int32) (y2 : Int32) (y3 : Int32) (y4 : Int32) (y5 : Int32) (y6 : Int32) : Option (Int32 × Hp) :=
 bnd (y6 + 1) fun v1 =>
 kout S y0 y1 y2 y3 y4 y5 v1

def f_L_tour_J256 (kout : Hp → Option Nat → Int32 → Int32 → Int32 → Int32 → Int32 → Int32 → Int32 → Int32 → Option (Int32 × Hp)) (S : Hp) (y0 : Option Nat) (y1 : Int32) (y2 : Int32) (y3 : Int32) (y4 : Int32) (y5 : Int32) (y6 : Int32) (y7 : Int32) (y10 : Int32) : Option (Int32 × Hp) :=
 bnd (y10 + 1) fun v1 =>
 kout S y0 y1 y2 y3 y4 y5 y6 y7 v1

def f_L_tour_J250 (kout : Hp → Option Nat → Int32 → Int32 → Int32 → Int32 → Int32 → Int32 → Int32 → Int32 → Int32 → Option (Int32 × Hp)) (S : Hp) (y0 : Option Nat) (y1 : Int32) (y2 : Int32) (y3 : Int32) (y4 : Int32) (y5 : Int32) (y6 : Int32) (y7 : Int32) (y10 : Int32) (y11 : Int32) : Option (Int32 × Hp) :=
 bnd (y11 + 1) fun v1 =>
 kout S y0 y1 y2 y3 y4 y5 y6 y7 y10 v1

def f_L_tour_L189_b (kout : Hp → Option Nat → Int32 → Int32 → Int32 → Int32 → Int32 → Int32 → Int32 → Int32 → Option (Int32 × Hp)) (rec : Hp → Option Nat → Int32 → Int32 → Int32 → Int32 → Int32 → Int32 → Int32 → Int32 → Int32 → Option (Int32 × Hp)) (S : Hp) (y0 : Option Nat) (y1 : Int32) (y2 : Int32) (y3 : Int32) (y4 : Int32) (y5 : Int32) (y6 : Int32) (y7 : Int32) (y10 : Int32) (y11 : Int32) : Option (Int32 × Hp) :=
 ob S 5 y0 fun b1 => cl (f_X5_tour S b1 y10 (4 : Int32)) fun v1 S1 =>
 if v1 ≤ y11 then
 f_L_tour_J256 kout S1 y0 y1 y2 y3 y4 y5 y6 y7 y10
 else
 if y10 = y1 then
 f_L_tour_J256 kout S1 y0 y1 y2 y3 y4 y5 y6 y7 y10
 else
 ob S1 5 y0 fun b2 => cl (f_X5_tour S1 b2 y10 (6 : Int32)) fun v2 S2 =>
 if v2 = 0 then
 ob S2 5 y0 fun b3 => cl (f_X5_tour S2 b3 y10 (0 : Int32)) fun v3 S3 =>
 ob S3 5 y0 fun b4 => cl (f_X5_tour S3 b4 y1 (0 : Int32)) fun v4 S4 =>
 if v3 = v4 then
 ob S4 5 y0 fun b5 => cl (f_X5_rope S4 b5 y10 y11 (0 : Int32)) fun v5 S5 =>
 if v5 = y7 then
 some ((0 : Int32), S5)
 else
 f_L_tour_J250 rec S5 y0 y1 y2 y3 y4 y5 y6 y7 y10 y11
 else
 f_L_tour_J250 rec S4 y0 y1 y2 y3 y4 y5 y6 y7 y10 y11
 else
 f_L_tour_J250 rec S2 y0 y1 y2 y3 y4 y5 y6 y7 y10 y11
def f_L_tour_L189 (kout : Hp → Option Nat → Int32 → Int32 → Int32 → Int32 → Int32 → Int32 → Int32 → Int32 → Option (Int32 × Hp)) : Nat → Hp → Option Nat → Int32 → Int32 → Int32 → Int32 → Int32 → Int32 → Int32 → Int32 → Int32 → Option (Int32 × Hp)
  | 0 => fun _ _ _ _ _ _ _ _ _ _ _ => none
  | n + 1 => f_L_tour_L189_b kout (f_L_tour_L189 kout n)

def f_L_tour_L166_b (kout : Hp → Option Nat → Int32 → Int32 → Int32 → Int32 → Int32 → Int32 → Option (Int32 × Hp)) (rec : Hp → Option Nat → Int32 → Int32 → Int32 → Int32 → Int32 → Int32 → Int32 → Int32 → Option (Int32 × Hp)) (S : Hp) (y0 : Option Nat) (y1 : Int32) (y2 : Int32) (y3 : Int32) (y4 : Int32) (y5 : Int32) (y6 : Int32) (y7 : Int32) (y10 : Int32) : Option (Int32 × Hp) :=
 ob S 5 y0 fun b1 => cl (f_X5_count S b1 (3 : Int32)) fun v1 S1 =>
 if v1 ≤ y10 then
 f_L_tour_J262 kout S1 y0 y1 y2 y3 y4 y5 y6
 else
 ob S1 5 y0 fun b2 => cl (f_X5_tour S1 b2 y1 (6 : Int32)) fun v2 S2 =>
 if v2 = 0 then
 f_L_tour_L189 rec 1000 S2 y0 y1 y2 y3 y4 y5 y6 y7 y10 (0 : Int32)
 else
 f_L_tour_J262 kout S2 y0 y1 y2 y3 y4 y5 y6
def f_L_tour_L166 (kout : Hp → Option Nat → Int32 → Int32 → Int32 → Int32 → Int32 → Int32 → Option (Int32 × Hp)) : Nat → Hp → Option Nat → Int32 → Int32 → Int32 → Int32 → Int32 → Int32 → Int32 → Int32 → Option (Int32 × Hp)
  | 0 => fun _ _ _ _ _ _ _ _ _ _ => none
  | n + 1 => f_L_tour_L166_b kout (f_L_tour_L166 kout n)

def f_L_tour_J161 (kout : Hp → Option Nat → Int32 → Int32 → Int32 → Int32 → Int32 → Int32 → Option (Int32 × Hp)) (S : Hp) (y0 : Option Nat) (y1 : Int32) (y2 : Int32) (y3 : Int32) (y4 : Int32) (y6 : Int32) (y7 : Int32) (z0 : Int32) : Option (Int32 × Hp) :=
 f_L_tour_L166 kout 1000 S y0 y1 y2 y3 y4 z0 y6 y7 (0 : Int32)

def f_L_tour_J160 (kout : Hp → Option Nat → Int32 → Int32 → Int32 → Int32 → Int32 → Int32 → Option (Int32 × Hp)) (S : Hp) (y0 : Option Nat) (y1 : Int32) (y2 : Int32) (y3 : Int32) (y4 : Int32) (y6 : Int32) (y7 : Int32) : Option (Int32 × Hp) :=
 f_L_tour_J161 kout S y0 y1 y2 y3 y4 y6 y7 (0 : Int32)

def f_L_tour_J133 (kout : Hp → Option Nat → Int32 → Int32 → Int32 → Int32 → Int32 → Int32 → Option (Int32 × Hp)) (S : Hp) (y0 : Option Nat) (y1 : Int32) (y2 : Int32) (y3 : Int32) (y5 : Int32) (y6 : Int32) (y7 : Int32) (z0 : Int32) : Option (Int32 × Hp) :=
 if y5 = 0 then
 f_L_tour_J160 kout S y0 y1 y2 y3 z0 y6 y7
 else
 ob S 5 y0 fun b1 => cl (f_X5_guide S b1 y7 (1 : Int32)) fun v1 S1 =>
 ob S1 5 y0 fun b2 => cl (f_X5_tour S1 b2 y1 (0 : Int32)) fun v2 S2 =>
 if v1 < v2 then
 f_L_tour_J160 kout S2 y0 y1 y2 y3 z0 y6 y7
 else
 f_L_tour_J161 kout S2 y0 y1 y2 y3 z0 y6 y7 (1 : Int32)

def f_L_tour_J84 (kout : Hp → Option Nat → Int32 → Int32 → Int32 → Int32 → Int32 → Int32 → Option (Int32 × Hp)) (S : Hp) (y0 : Option Nat) (y1 : Int32) (y2 : Int32) (y3 : Int32) (y4 : Int32) (y5 : Int32) (y6 : Int32) (y7 : Int32) (y8 : Int32) (z0 : Int32) : Option (Int32 × Hp) :=
 ob S 5 y0 fun b1 => cl (f_X5_rope S b1 y1 y6 (1 : Int32)) fun v1 S1 =>
 if v1 = y8 then
 ob S1 5 y0 fun b2 => cl (f_X5_rope S1 b2 y1 y6 (2 : Int32)) fun v2 S2 =>
 if v2 = z0 then
 bnd ((y3 - z0)) fun v3 =>
 if z0 ≤ y4 then
 f_L_tour_J133 kout S2 y0 y1 y2 v3 y5 y6 y7 y4
 else
 f_L_tour_J133 kout S2 y0 y1 y2 v3 y5 y6 y7 z0
 else
 some ((0 : Int32), S2)
 else
 some ((0 : Int32), S1)

def f_L_tour_J70 (kout : Hp → Option Nat → Int32 → Int32 → Int32 → Int32 → Int32 → Int32 → Option (Int32 × Hp)) (S : Hp) (y0 : Option Nat) (y1 : Int32) (y2 : Int32) (y3 : Int32) (y4 : Int32) (y5 : Int32) (y6 : Int32) (y7 : Int32) (z0 : Int32) : Option (Int32 × Hp) :=
 if y3 ≤ z0 then
 f_L_tour_J84 kout S y0 y1 y2 y3 y4 y5 y6 y7 z0 y3
 else
 f_L_tour_J84 kout S y0 y1 y2 y3 y4 y5 y6 y7 z0 z0

def f_L_tour_L24_b (rec : Hp → Option Nat → Int32 → Int32 → Int32 → Int32 → Int32 → Int32 → Option (Int32 × Hp)) (S : Hp) (y0 : Option Nat) (y1 : Int32) (y2 : Int32) (y3 : Int32) (y4 : Int32) (y5 : Int32) (y6 : Int32) : Option (Int32 × Hp) :=
 ob S 5 y0 fun b1 => cl (f_X5_tour S b1 y1 (4 : Int32)) fun v1 S1 =>
 if v1 ≤ y6 then
 fpg (FP.dmul 4612811918334230528 (FP.i2d (y4 + 1))) <|
 fpg (FP.dadd 4624633867356078080 (FP.dmul 4612811918334230528 (FP.i2d (y4 + 1)))) <|
 bnd ((FP.dadd 4624633867356078080 (FP.dmul 4612811918334230528 (FP.i2d (y4 + 1))))) fun e1 =>
 f_L_tour_L289 1000 S1 y0 y1 y3 y5 e1 (1 : Int32) (0 : Int32)
 else
 ob S1 5 y0 fun b2 => cl (f_X5_rope S1 b2 y1 y6 (0 : Int32)) fun v2 S2 =>
 ob S2 5 y0 fun b3 => cl (f_X5_guide S2 b3 v2 (0 : Int32)) fun v3 S3 =>
 bnd (((y2 + v3) - 2)) fun v4 =>
 if 1 ≤ v4 then
 f_L_tour_J70 rec S3 y0 y1 y2 y3 y4 y5 y6 v2 v4
 else
 f_L_tour_J70 rec S3 y0 y1 y2 y3 y4 y5 y6 v2 (1 : Int32)
def f_L_tour_L24 : Nat → Hp → Option Nat → Int32 → Int32 → Int32 → Int32 → Int32 → Int32 → Option (Int32 × Hp)
  | 0 => fun _ _ _ _ _ _ _ _ => none
  | n + 1 => f_L_tour_L24_b (f_L_tour_L24 n)
def f_L_tour (S : Hp) (x0 : Option Nat) (x1 : Int32) : Option (Int32 × Hp) :=
 ob S 5 x0 fun b1 => cl (f_X5_tour S b1 x1 (9 : Int32)) fun v1 S1 =>
 ob S1 5 x0 fun b2 => cl (f_X5_tour S1 b2 x1 (3 : Int32)) fun v2 S2 =>
 f_L_tour_L24 1000 S2 x0 x1 v1 v2 (0 : Int32) (1 : Int32) (0 : Int32)
set_option maxHeartbeats 4000000 in
set_option maxRecDepth 100000 in
theorem w_L_tour_J572 {X : Cx} (C : CxOK X cL_tour RL rm_L_tour) (hn : xn X = 12) {S0 : Hp} {o : Int32 × Hp} (hQ : QI X (some .boolean) S0 0 0 o)  (S : Hp) (y0 : Option Nat) (y1 : Int32) (y11 : Int32) (h : f_L_tour_J572 S y0 y1 y11 = some o) : GW X 0 0 S 572 [(0, va_rf y0), (1, .int y1), (11, .int y11)] [] := by
  unfold f_L_tour_J572 at h
  refine g_aload_n C (q := 0) dL_tour_572 rfl rfl ?_
  refine g_iload_n C (q := 1) dL_tour_573 rfl rfl ?_
  refine g_iconst C (v := 4) dL_tour_574 (by decide) ?_
  refine g_callVI C (ci := 5) (As := [.int y1, .int 4]) (np := 2) (st := []) (r := y0) rfl (by decide) (fun b1 q hq => c_X5_tour S b1 y1 (4 : Int32) q hq) gv_RL_X5_tour rfl rfl dsX5_tour rfl ⟨Nat.le_of_ble_eq_true rfl, Nat.le_of_ble_eq_true rfl⟩ rfl (cat_sum (Nat.le_of_ble_eq_true rfl)) ⟨Nat.zero_le _, Nat.zero_le _⟩ dL_tour_575 h (fun v1 S1 h => ?_)
  refine g_iconst C (v := 4) dL_tour_578 (by decide) ?_
  refine g_icmp_gt C (tgt := 639) dL_tour_579 (by decide) h (fun h => ?_) (fun h => ?_)
  · refine g_iconst C (v := 0) dL_tour_639 (by decide) ?_
    exact g_zret C hQ (by decide) dL_tour_640 h
  · refine g_aload_n C (q := 0) dL_tour_582 rfl rfl ?_
    refine g_iload_n C (q := 1) dL_tour_583 rfl rfl ?_
    refine g_iconst C (v := 3) dL_tour_584 (by decide) ?_
    refine g_callVI C (ci := 5) (As := [.int y1, .int 3]) (np := 2) (st := []) (r := y0) rfl (by decide) (fun b2 q hq => c_X5_tour S1 b2 y1 (3 : Int32) q hq) gv_RL_X5_tour rfl rfl dsX5_tour rfl ⟨Nat.le_of_ble_eq_true rfl, Nat.le_of_ble_eq_true rfl⟩ rfl (cat_sum (Nat.le_of_ble_eq_true rfl)) ⟨Nat.zero_le _, Nat.zero_le _⟩ dL_tour_585 h (fun v2 S2 h => ?_)
    refine g_bipush C (v := 12) dL_tour_588 (by decide) ?_
    refine g_icmp_gt C (tgt := 639) dL_tour_590 (by decide) h (fun h => ?_) (fun h => ?_)
    · refine g_iconst C (v := 0) dL_tour_639 (by decide) ?_
      exact g_zret C hQ (by decide) dL_tour_640 h
    · refine g_aload_n C (q := 0) dL_tour_593 rfl rfl ?_
      refine g_iload_n C (q := 1) dL_tour_594 rfl rfl ?_
      refine g_aload_n C (q := 0) dL_tour_595 rfl rfl ?_
      refine g_iload_n C (q := 1) dL_tour_596 rfl rfl ?_
      refine g_iconst C (v := 4) dL_tour_597 (by decide) ?_
      refine g_callVI C (ci := 5) (As := [.int y1, .int 4]) (np := 2) (st := [.int y1, va_rf y0]) (r := y0) rfl (by decide) (fun b3 q hq => c_X5_tour S2 b3 y1 (4 : Int32) q hq) gv_RL_X5_tour rfl rfl dsX5_tour rfl ⟨Nat.le_of_ble_eq_true rfl, Nat.le_of_ble_eq_true rfl⟩ rfl (cat_sum (Nat.le_of_ble_eq_true rfl)) ⟨Nat.zero_le _, Nat.zero_le _⟩ dL_tour_598 h (fun v3 S3 h => ?_)
      refine g_iconst C (v := 0) dL_tour_601 (by decide) ?_
      refine g_callVI C (ci := 5) (As := [.int y1, .int v3, .int 0]) (np := 3) (st := []) (r := y0) rfl (by decide) (fun b4 q hq => c_X5_rope S3 b4 y1 v3 (0 : Int32) q hq) gv_RL_X5_rope rfl rfl dsX5_rope rfl ⟨Nat.le_of_ble_eq_true rfl, Nat.le_of_ble_eq_true rfl⟩ rfl (cat_sum (Nat.le_of_ble_eq_true rfl)) ⟨Nat.zero_le _, Nat.zero_le _⟩ dL_tour_602 h (fun v4 S4 h => ?_)
      refine g_bipush C (v := (-5)) dL_tour_605 (by decide) ?_
      refine g_icmp_ne C (tgt := 639) dL_tour_607 (by decide) h (fun h => ?_) (fun h => ?_)
      · refine g_aload_n C (q := 0) dL_tour_610 rfl rfl ?_
        refine g_iload_n C (q := 1) dL_tour_611 rfl rfl ?_
        refine g_bipush C (v := 11) dL_tour_612 (by decide) ?_
        refine g_callVI C (ci := 5) (As := [.int y1, .int 11]) (np := 2) (st := []) (r := y0) rfl (by decide) (fun b5 q hq => c_X5_tour S4 b5 y1 (11 : Int32) q hq) gv_RL_X5_tour rfl rfl dsX5_tour rfl ⟨Nat.le_of_ble_eq_true rfl, Nat.le_of_ble_eq_true rfl⟩ rfl (cat_sum (Nat.le_of_ble_eq_true rfl)) ⟨Nat.zero_le _, Nat.zero_le _⟩ dL_tour_614 h (fun v5 S5 h => ?_)
        refine g_bipush C (v := (-2)) dL_tour_617 (by decide) ?_
        refine g_icmp_ne C (tgt := 639) dL_tour_619 (by decide) h (fun h => ?_) (fun h => ?_)
        · refine g_iload C (q := 2) dL_tour_622 rfl ?_
          refine g_if_eq C (tgt := 635) dL_tour_624 (by decide) h (fun h => ?_) (fun h => ?_)
          · refine g_iconst C (v := 1) dL_tour_635 (by decide) ?_
            refine g_goto C (tgt := 640) dL_tour_636 (by decide) ?_
            exact g_zret C hQ (by decide) dL_tour_640 h
          · refine g_aload_n C (q := 0) dL_tour_627 rfl rfl ?_
            refine g_iconst C (v := 1) dL_tour_628 (by decide) ?_
            refine g_callVI C (ci := 5) (As := [.int 1]) (np := 1) (st := []) (r := y0) rfl (by decide) (fun b6 q hq => c_X5_count S5 b6 (1 : Int32) q hq) gv_RL_X5_count rfl rfl dsX5_count rfl ⟨Nat.le_of_ble_eq_true rfl, Nat.le_of_ble_eq_true rfl⟩ rfl (cat_sum (Nat.le_of_ble_eq_true rfl)) ⟨Nat.zero_le _, Nat.zero_le _⟩ dL_tour_629 h (fun v6 S6 h => ?_)
            refine g_if_le C (tgt := 639) dL_tour_632 (by decide) h (fun h => ?_) (fun h => ?_)
            · refine g_iconst C (v := 0) dL_tour_639 (by decide) ?_
              exact g_zret C hQ (by decide) dL_tour_640 h
            · refine g_iconst C (v := 1) dL_tour_635 (by decide) ?_
              refine g_goto C (tgt := 640) dL_tour_636 (by decide) ?_
              exact g_zret C hQ (by decide) dL_tour_640 h
        · refine g_iconst C (v := 0) dL_tour_639 (by decide) ?_
          exact g_zret C hQ (by decide) dL_tour_640 h
      · refine g_iconst C (v := 0) dL_tour_639 (by decide) ?_
        exact g_zret C hQ (by decide) dL_tour_640 h

set_option maxHeartbeats 4000000 in
set_option maxRecDepth 100000 in
theorem w_L_tour_J553 {X : Cx} (C : CxOK X cL_tour RL rm_L_tour) (hn : xn X = 12) {S0 : Hp} {o : Int32 × Hp} (hQ : QI X (some .boolean) S0 0 0 o)  (S : Hp) (y0 : Option Nat) (y1 : Int32) (y10 : Int32) (y11 : Int32) (h : f_L_tour_J553 S y0 y1 y10 y11 = some o) : GW X 0 0 S 553 [(0, va_rf y0), (1, .int y1), (10, .int y10), (11, .int y11)] [] := by
  unfold f_L_tour_J553 at h
  refine g_iload C (q := 2) dL_tour_553 rfl ?_
  refine g_if_ne C (tgt := 572) dL_tour_555 (by decide) h (fun h => ?_) (fun h => ?_)
  · refine g_aload_n C (q := 0) dL_tour_558 rfl rfl ?_
    refine g_iload_n C (q := 1) dL_tour_559 rfl rfl ?_
    refine g_iconst C (v := 0) dL_tour_560 (by decide) ?_
    refine g_callVI C (ci := 5) (As := [.int y1, .int 0]) (np := 2) (st := []) (r := y0) rfl (by decide) (fun b1 q hq => c_X5_tour S b1 y1 (0 : Int32) q hq) gv_RL_X5_tour rfl rfl dsX5_tour rfl ⟨Nat.le_of_ble_eq_true rfl, Nat.le_of_ble_eq_true rfl⟩ rfl (cat_sum (Nat.le_of_ble_eq_true rfl)) ⟨Nat.zero_le _, Nat.zero_le _⟩ dL_tour_561 h (fun v1 S1 h => ?_)
    refine g_aload_n C (q := 0) dL_tour_564 rfl rfl ?_
    refine g_iconst C (v := 0) dL_tour_565 (by decide) ?_
    refine g_callVI C (ci := 5) (As := [.int 0]) (np := 1) (st := [.int v1]) (r := y0) rfl (by decide) (fun b2 q hq => c_X5_count S1 b2 (0 : Int32) q hq) gv_RL_X5_count rfl rfl dsX5_count rfl ⟨Nat.le_of_ble_eq_true rfl, Nat.le_of_ble_eq_true rfl⟩ rfl (cat_sum (Nat.le_of_ble_eq_true rfl)) ⟨Nat.zero_le _, Nat.zero_le _⟩ dL_tour_566 h (fun v2 S2 h => ?_)
    refine g_icmp_lt C (tgt := 639) dL_tour_569 (by decide) h (fun h => ?_) (fun h => ?_)
    · refine g_iconst C (v := 0) dL_tour_639 (by decide) ?_
      exact g_zret C hQ (by decide) dL_tour_640 h
    · refine g_sub (lv' := [(0, va_rf y0), (1, .int y1), (11, .int y11)]) [0, 1, 3] rfl ?_
      exact w_L_tour_J572 C hn hQ S2 y0 y1 y11 h
  · refine g_sub (lv' := [(0, va_rf y0), (1, .int y1), (11, .int y11)]) [0, 1, 3] rfl ?_
    exact w_L_tour_J572 C hn hQ S y0 y1 y11 h

set_option maxHeartbeats 4000000 in
set_option maxRecDepth 100000 in
theorem w_L_tour_J529 {X : Cx} (C : CxOK X cL_tour RL rm_L_tour) (hn : xn X = 12) {S0 : Hp} {o : Int32 × Hp} (hQ : QI X (some .boolean) S0 0 0 o)  (S : Hp) (y0 : Option Nat) (y1 : Int32) (y10 : Int32) (y11 : Int32) (h : f_L_tour_J529 S y0 y1 y10 y11 = some o) : GW X 0 0 S 529 [(0, va_rf y0), (1, .int y1), (10, .int y10), (11, .int y11)] [] := by
  unfold f_L_tour_J529 at h
  refine g_iload C (q := 2) dL_tour_529 rfl ?_
  refine g_iconst C (v := 3) dL_tour_531 (by decide) ?_
  refine g_icmp_ne C (tgt := 553) dL_tour_532 (by decide) h (fun h => ?_) (fun h => ?_)
  · refine g_aload_n C (q := 0) dL_tour_535 rfl rfl ?_
    refine g_iload_n C (q := 1) dL_tour_536 rfl rfl ?_
    refine g_iconst C (v := 3) dL_tour_537 (by decide) ?_
    refine g_callVI C (ci := 5) (As := [.int y1, .int 3]) (np := 2) (st := []) (r := y0) rfl (by decide) (fun b1 q hq => c_X5_tour S b1 y1 (3 : Int32) q hq) gv_RL_X5_tour rfl rfl dsX5_tour rfl ⟨Nat.le_of_ble_eq_true rfl, Nat.le_of_ble_eq_true rfl⟩ rfl (cat_sum (Nat.le_of_ble_eq_true rfl)) ⟨Nat.zero_le _, Nat.zero_le _⟩ dL_tour_538 h (fun v1 S1 h => ?_)
    refine g_if_ne C (tgt := 639) dL_tour_541 (by decide) h (fun h => ?_) (fun h => ?_)
    · refine g_aload_n C (q := 0) dL_tour_544 rfl rfl ?_
      refine g_iload_n C (q := 1) dL_tour_545 rfl rfl ?_
      refine g_iconst C (v := 4) dL_tour_546 (by decide) ?_
      refine g_callVI C (ci := 5) (As := [.int y1, .int 4]) (np := 2) (st := []) (r := y0) rfl (by decide) (fun b2 q hq => c_X5_tour S1 b2 y1 (4 : Int32) q hq) gv_RL_X5_tour rfl rfl dsX5_tour rfl ⟨Nat.le_of_ble_eq_true rfl, Nat.le_of_ble_eq_true rfl⟩ rfl (cat_sum (Nat.le_of_ble_eq_true rfl)) ⟨Nat.zero_le _, Nat.zero_le _⟩ dL_tour_547 h (fun v2 S2 h => ?_)
      refine g_if_ne C (tgt := 639) dL_tour_550 (by decide) h (fun h => ?_) (fun h => ?_)
      · refine g_sub (lv' := [(0, va_rf y0), (1, .int y1), (10, .int y10), (11, .int y11)]) [0, 1, 2, 3] rfl ?_
        exact w_L_tour_J553 C hn hQ S2 y0 y1 y10 y11 h
      · refine g_iconst C (v := 0) dL_tour_639 (by decide) ?_
        exact g_zret C hQ (by decide) dL_tour_640 h
    · refine g_iconst C (v := 0) dL_tour_639 (by decide) ?_
      exact g_zret C hQ (by decide) dL_tour_640 h
  · refine g_sub (lv' := [(0, va_rf y0), (1, .int y1), (10, .int y10), (11, .int y11)]) [0, 1, 2, 3] rfl ?_
    exact w_L_tour_J553 C hn hQ S y0 y1 y10 y11 h

set_option maxHeartbeats 4000000 in
set_option maxRecDepth 100000 in
theorem w_L_tour_J511 {X : Cx} (C : CxOK X cL_tour RL rm_L_tour) (hn : xn X = 12) {S0 : Hp} {o : Int32 × Hp} (hQ : QI X (some .boolean) S0 0 0 o)  (S : Hp) (y0 : Option Nat) (y1 : Int32) (y10 : Int32) (y11 : Int32) (z0 : Int32) (z1 : Int32) (h : f_L_tour_J511 S y0 y1 y10 y11 z0 z1 = some o) : GW X 0 0 S 511 [(0, va_rf y0), (1, .int y1), (10, .int y10), (11, .int y11)] [.int z0, .int z1] := by
  unfold f_L_tour_J511 at h
  refine g_icmp_ne C (tgt := 639) dL_tour_511 (by decide) h (fun h => ?_) (fun h => ?_)
  · refine g_iload C (q := 2) dL_tour_514 rfl ?_
    refine g_iconst C (v := 2) dL_tour_516 (by decide) ?_
    refine g_icmp_lt C (tgt := 529) dL_tour_517 (by decide) h (fun h => ?_) (fun h => ?_)
    · refine g_sub (lv' := [(0, va_rf y0), (1, .int y1), (10, .int y10), (11, .int y11)]) [0, 1, 2, 3] rfl ?_
      exact w_L_tour_J529 C hn hQ S y0 y1 y10 y11 h
    · refine g_aload_n C (q := 0) dL_tour_520 rfl rfl ?_
      refine g_iload_n C (q := 1) dL_tour_521 rfl rfl ?_
      refine g_iconst C (v := 5) dL_tour_522 (by decide) ?_
      refine g_callVI C (ci := 5) (As := [.int y1, .int 5]) (np := 2) (st := []) (r := y0) rfl (by decide) (fun b1 q hq => c_X5_tour S b1 y1 (5 : Int32) q hq) gv_RL_X5_tour rfl rfl dsX5_tour rfl ⟨Nat.le_of_ble_eq_true rfl, Nat.le_of_ble_eq_true rfl⟩ rfl (cat_sum (Nat.le_of_ble_eq_true rfl)) ⟨Nat.zero_le _, Nat.zero_le _⟩ dL_tour_523 h (fun v1 S1 h => ?_)
      refine g_if_ne C (tgt := 639) dL_tour_526 (by decide) h (fun h => ?_) (fun h => ?_)
      · refine g_sub (lv' := [(0, va_rf y0), (1, .int y1), (10, .int y10), (11, .int y11)]) [0, 1, 2, 3] rfl ?_
        exact w_L_tour_J529 C hn hQ S1 y0 y1 y10 y11 h
      · refine g_iconst C (v := 0) dL_tour_639 (by decide) ?_
        exact g_zret C hQ (by decide) dL_tour_640 h
  · refine g_iconst C (v := 0) dL_tour_639 (by decide) ?_
    exact g_zret C hQ (by decide) dL_tour_640 h

set_option maxHeartbeats 4000000 in
set_option maxRecDepth 100000 in
theorem w_L_tour_J500 {X : Cx} (C : CxOK X cL_tour RL rm_L_tour) (hn : xn X = 12) {S0 : Hp} {o : Int32 × Hp} (hQ : QI X (some .boolean) S0 0 0 o)  (S : Hp) (y0 : Option Nat) (y1 : Int32) (y10 : Int32) (y11 : Int32) (z0 : Int32) (h : f_L_tour_J500 S y0 y1 y10 y11 z0 = some o) : GW X 0 0 S 500 [(0, va_rf y0), (1, .int y1), (10, .int y10), (11, .int y11)] [.int z0] := by
  unfold f_L_tour_J500 at h
  refine g_iload C (q := 2) dL_tour_500 rfl ?_
  refine g_iconst C (v := 2) dL_tour_502 (by decide) ?_
  refine g_icmp_ne C (tgt := 510) dL_tour_503 (by decide) h (fun h => ?_) (fun h => ?_)
  · refine g_iconst C (v := 1) dL_tour_506 (by decide) ?_
    refine g_goto C (tgt := 511) dL_tour_507 (by decide) ?_
    refine g_sub (lv' := [(0, va_rf y0), (1, .int y1), (10, .int y10), (11, .int y11)]) [0, 1, 2, 3] rfl ?_
    exact w_L_tour_J511 C hn hQ S y0 y1 y10 y11 (1 : Int32) z0 h
  · refine g_iconst C (v := 0) dL_tour_510 (by decide) ?_
    refine g_sub (lv' := [(0, va_rf y0), (1, .int y1), (10, .int y10), (11, .int y11)]) [0, 1, 2, 3] rfl ?_
    exact w_L_tour_J511 C hn hQ S y0 y1 y10 y11 (0 : Int32) z0 h

set_option maxHeartbeats 4000000 in
set_option maxRecDepth 100000 in
theorem w_L_tour_J482 {X : Cx} (C : CxOK X cL_tour RL rm_L_tour) (hn : xn X = 12) {S0 : Hp} {o : Int32 × Hp} (hQ : QI X (some .boolean) S0 0 0 o)  (S : Hp) (y0 : Option Nat) (y1 : Int32) (y10 : Int32) (y11 : Int32) (z0 : Int32) (z1 : Int32) (h : f_L_tour_J482 S y0 y1 y10 y11 z0 z1 = some o) : GW X 0 0 S 482 [(0, va_rf y0), (1, .int y1), (10, .int y10), (11, .int y11)] [.int z0, .int z1] := by
  unfold f_L_tour_J482 at h
  refine g_icmp_ne C (tgt := 639) dL_tour_482 (by decide) h (fun h => ?_) (fun h => ?_)
  · refine g_aload_n C (q := 0) dL_tour_485 rfl rfl ?_
    refine g_iload_n C (q := 1) dL_tour_486 rfl rfl ?_
    refine g_bipush C (v := 7) dL_tour_487 (by decide) ?_
    refine g_callVI C (ci := 5) (As := [.int y1, .int 7]) (np := 2) (st := []) (r := y0) rfl (by decide) (fun b1 q hq => c_X5_tour S b1 y1 (7 : Int32) q hq) gv_RL_X5_tour rfl rfl dsX5_tour rfl ⟨Nat.le_of_ble_eq_true rfl, Nat.le_of_ble_eq_true rfl⟩ rfl (cat_sum (Nat.le_of_ble_eq_true rfl)) ⟨Nat.zero_le _, Nat.zero_le _⟩ dL_tour_489 h (fun v1 S1 h => ?_)
    refine g_if_lt C (tgt := 499) dL_tour_492 (by decide) h (fun h => ?_) (fun h => ?_)
    · refine g_iconst C (v := 0) dL_tour_499 (by decide) ?_
      refine g_sub (lv' := [(0, va_rf y0), (1, .int y1), (10, .int y10), (11, .int y11)]) [0, 1, 2, 3] rfl ?_
      exact w_L_tour_J500 C hn hQ S1 y0 y1 y10 y11 (0 : Int32) h
    · refine g_iconst C (v := 1) dL_tour_495 (by decide) ?_
      refine g_goto C (tgt := 500) dL_tour_496 (by decide) ?_
      refine g_sub (lv' := [(0, va_rf y0), (1, .int y1), (10, .int y10), (11, .int y11)]) [0, 1, 2, 3] rfl ?_
      exact w_L_tour_J500 C hn hQ S1 y0 y1 y10 y11 (1 : Int32) h
  · refine g_iconst C (v := 0) dL_tour_639 (by decide) ?_
    exact g_zret C hQ (by decide) dL_tour_640 h

set_option maxHeartbeats 4000000 in
set_option maxRecDepth 100000 in
theorem w_L_tour_J439 {X : Cx} (C : CxOK X cL_tour RL rm_L_tour) (hn : xn X = 12) {S0 : Hp} {o : Int32 × Hp} (hQ : QI X (some .boolean) S0 0 0 o)  (S : Hp) (y0 : Option Nat) (y1 : Int32) (y3 : Int32) (y6 : UInt64) (y9 : Int32) (y10 : Int32) (z0 : Int32) (h : f_L_tour_J439 S y0 y1 y3 y6 y9 y10 z0 = some o) : GW X 0 0 S 439 [(0, va_rf y0), (1, .int y1), (3, .int y3), (6, .double y6), (9, .int y9), (10, .int y10)] [.int z0] := by
  have hn11 : 11 < xn X := by rw [hn]; decide
  unfold f_L_tour_J439 at h
  refine g_istore C (i := 11) (lv' := [(11, .int z0), (0, va_rf y0), (1, .int y1), (3, .int y3), (6, .double y6), (9, .int y9), (10, .int y10)]) dL_tour_439 hn11 rfl ?_
  refine g_aload_n C (q := 1) dL_tour_441 rfl rfl ?_
  refine g_iload_n C (q := 2) dL_tour_442 rfl rfl ?_
  refine g_callVD C (ci := 5) (As := [.int y1]) (np := 1) (st := []) (r := y0) rfl (by decide) (fun b1 q hq => c_X5_needed S b1 y1 q hq) gv_RL_X5_needed rfl rfl dsX5_needed rfl ⟨Nat.le_of_ble_eq_true rfl, Nat.le_of_ble_eq_true rfl⟩ rfl (cat_sum (Nat.le_of_ble_eq_true rfl)) ⟨Nat.zero_le _, Nat.zero_le _⟩ dL_tour_443 h (fun e1 S1 h => ?_)
  refine g_dload C (q := 4) dL_tour_446 rfl ?_
  refine g_dcmp C dL_tour_448 ?_
  refine g_if_ne C (tgt := 639) dL_tour_449 (by decide) h (fun h => ?_) (fun h => ?_)
  · refine g_aload_n C (q := 1) dL_tour_452 rfl rfl ?_
    refine g_iload_n C (q := 2) dL_tour_453 rfl rfl ?_
    refine g_bipush C (v := 8) dL_tour_454 (by decide) ?_
    refine g_callVI C (ci := 5) (As := [.int y1, .int 8]) (np := 2) (st := []) (r := y0) rfl (by decide) (fun b2 q hq => c_X5_tour S1 b2 y1 (8 : Int32) q hq) gv_RL_X5_tour rfl rfl dsX5_tour rfl ⟨Nat.le_of_ble_eq_true rfl, Nat.le_of_ble_eq_true rfl⟩ rfl (cat_sum (Nat.le_of_ble_eq_true rfl)) ⟨Nat.zero_le _, Nat.zero_le _⟩ dL_tour_456 h (fun v1 S2 h => ?_)
    refine g_iload_n C (q := 3) dL_tour_459 rfl rfl ?_
    refine g_icmp_ne C (tgt := 639) dL_tour_460 (by decide) h (fun h => ?_) (fun h => ?_)
    · refine g_aload_n C (q := 1) dL_tour_463 rfl rfl ?_
      refine g_iload_n C (q := 2) dL_tour_464 rfl rfl ?_
      refine g_bipush C (v := 10) dL_tour_465 (by decide) ?_
      refine g_callVI C (ci := 5) (As := [.int y1, .int 10]) (np := 2) (st := []) (r := y0) rfl (by decide) (fun b3 q hq => c_X5_tour S2 b3 y1 (10 : Int32) q hq) gv_RL_X5_tour rfl rfl dsX5_tour rfl ⟨Nat.le_of_ble_eq_true rfl, Nat.le_of_ble_eq_true rfl⟩ rfl (cat_sum (Nat.le_of_ble_eq_true rfl)) ⟨Nat.zero_le _, Nat.zero_le _⟩ dL_tour_467 h (fun v2 S3 h => ?_)
      refine g_iload C (q := 6) dL_tour_470 rfl ?_
      refine g_if_ne C (tgt := 480) dL_tour_472 (by decide) h (fun h => ?_) (fun h => ?_)
      · refine g_iload C (q := 5) dL_tour_475 rfl ?_
        refine g_goto C (tgt := 482) dL_tour_477 (by decide) ?_
        refine g_sub (lv' := [(0, va_rf y0), (1, .int y1), (10, .int y10), (11, .int z0)]) [1, 2, 6, 0] rfl ?_
        exact w_L_tour_J482 C hn hQ S3 y0 y1 y10 z0 y9 v2 h
      · refine g_bipush C (v := (-5)) dL_tour_480 (by decide) ?_
        refine g_sub (lv' := [(0, va_rf y0), (1, .int y1), (10, .int y10), (11, .int z0)]) [1, 2, 6, 0] rfl ?_
        exact w_L_tour_J482 C hn hQ S3 y0 y1 y10 z0 (-5 : Int32) v2 h
    · refine g_iconst C (v := 0) dL_tour_639 (by decide) ?_
      exact g_zret C hQ (by decide) dL_tour_640 h
  · refine g_iconst C (v := 0) dL_tour_639 (by decide) ?_
    exact g_zret C hQ (by decide) dL_tour_640 h

set_option maxHeartbeats 4000000 in
set_option maxRecDepth 100000 in
theorem w_L_tour_J438 {X : Cx} (C : CxOK X cL_tour RL rm_L_tour) (hn : xn X = 12) {S0 : Hp} {o : Int32 × Hp} (hQ : QI X (some .boolean) S0 0 0 o)  (S : Hp) (y0 : Option Nat) (y1 : Int32) (y3 : Int32) (y6 : UInt64) (y9 : Int32) (y10 : Int32) (h : f_L_tour_J438 S y0 y1 y3 y6 y9 y10 = some o) : GW X 0 0 S 438 [(0, va_rf y0), (1, .int y1), (3, .int y3), (6, .double y6), (9, .int y9), (10, .int y10)] [] := by
  unfold f_L_tour_J438 at h
  refine g_iconst C (v := 0) dL_tour_438 (by decide) ?_
  refine g_sub (lv' := [(0, va_rf y0), (1, .int y1), (3, .int y3), (6, .double y6), (9, .int y9), (10, .int y10)]) [0, 1, 2, 3, 4, 5] rfl ?_
  exact w_L_tour_J439 C hn hQ S y0 y1 y3 y6 y9 y10 (0 : Int32) h

set_option maxHeartbeats 4000000 in
set_option maxRecDepth 100000 in
theorem w_L_tour_J413 {X : Cx} (C : CxOK X cL_tour RL rm_L_tour) (hn : xn X = 12) {S0 : Hp} {o : Int32 × Hp} (hQ : QI X (some .boolean) S0 0 0 o)  (S : Hp) (y0 : Option Nat) (y1 : Int32) (y3 : Int32) (y6 : UInt64) (z0 : Int32) (h : f_L_tour_J413 S y0 y1 y3 y6 z0 = some o) : GW X 0 0 S 413 [(0, va_rf y0), (1, .int y1), (3, .int y3), (6, .double y6)] [.int z0] := by
  have hn9 : 9 < xn X := by rw [hn]; decide
  have hn10 : 10 < xn X := by rw [hn]; decide
  unfold f_L_tour_J413 at h
  refine g_istore C (i := 9) (lv' := [(9, .int z0), (0, va_rf y0), (1, .int y1), (3, .int y3), (6, .double y6)]) dL_tour_413 hn9 rfl ?_
  refine g_aload_n C (q := 1) dL_tour_415 rfl rfl ?_
  refine g_iload_n C (q := 2) dL_tour_416 rfl rfl ?_
  refine g_bipush C (v := 6) dL_tour_417 (by decide) ?_
  refine g_callVI C (ci := 5) (As := [.int y1, .int 6]) (np := 2) (st := []) (r := y0) rfl (by decide) (fun b1 q hq => c_X5_tour S b1 y1 (6 : Int32) q hq) gv_RL_X5_tour rfl rfl dsX5_tour rfl ⟨Nat.le_of_ble_eq_true rfl, Nat.le_of_ble_eq_true rfl⟩ rfl (cat_sum (Nat.le_of_ble_eq_true rfl)) ⟨Nat.zero_le _, Nat.zero_le _⟩ dL_tour_419 h (fun v1 S1 h => ?_)
  refine g_istore C (i := 10) (lv' := [(10, .int v1), (9, .int z0), (0, va_rf y0), (1, .int y1), (3, .int y3), (6, .double y6)]) dL_tour_422 hn10 rfl ?_
  refine g_iload C (q := 0) dL_tour_424 rfl ?_
  refine g_iconst C (v := 1) dL_tour_426 (by decide) ?_
  refine g_icmp_ne C (tgt := 438) dL_tour_427 (by decide) h (fun h => ?_) (fun h => ?_)
  · refine g_iload_n C (q := 4) dL_tour_430 rfl rfl ?_
    refine g_if_le C (tgt := 438) dL_tour_431 (by decide) h (fun h => ?_) (fun h => ?_)
    · refine g_sub (lv' := [(0, va_rf y0), (1, .int y1), (3, .int y3), (6, .double y6), (9, .int z0), (10, .int v1)]) [2, 3, 4, 5, 1, 0] rfl ?_
      exact w_L_tour_J438 C hn hQ S1 y0 y1 y3 y6 z0 v1 h
    · refine g_iconst C (v := 1) dL_tour_434 (by decide) ?_
      refine g_goto C (tgt := 439) dL_tour_435 (by decide) ?_
      refine g_sub (lv' := [(0, va_rf y0), (1, .int y1), (3, .int y3), (6, .double y6), (9, .int z0), (10, .int v1)]) [2, 3, 4, 5, 1, 0] rfl ?_
      exact w_L_tour_J439 C hn hQ S1 y0 y1 y3 y6 z0 v1 (1 : Int32) h
  · refine g_sub (lv' := [(0, va_rf y0), (1, .int y1), (3, .int y3), (6, .double y6), (9, .int z0), (10, .int v1)]) [2, 3, 4, 5, 1, 0] rfl ?_
    exact w_L_tour_J438 C hn hQ S1 y0 y1 y3 y6 z0 v1 h

set_option maxHeartbeats 4000000 in
set_option maxRecDepth 100000 in
theorem w_L_tour_J408 {X : Cx} (C : CxOK X cL_tour RL rm_L_tour) (hn : xn X = 12) {S0 : Hp} {o : Int32 × Hp} (hQ : QI X (some .boolean) S0 0 0 o)  (S : Hp) (y0 : Option Nat) (y1 : Int32) (y3 : Int32) (y6 : UInt64) (h : f_L_tour_J408 S y0 y1 y3 y6 = some o) : GW X 0 0 S 408 [(0, va_rf y0), (1, .int y1), (3, .int y3), (6, .double y6)] [] := by
  unfold f_L_tour_J408 at h
  refine g_iconst C (v := 3) dL_tour_408 (by decide) ?_
  refine g_goto C (tgt := 413) dL_tour_409 (by decide) ?_
  refine g_sub (lv' := [(0, va_rf y0), (1, .int y1), (3, .int y3), (6, .double y6)]) [0, 1, 2, 3] rfl ?_
  exact w_L_tour_J413 C hn hQ S y0 y1 y3 y6 (3 : Int32) h

set_option maxHeartbeats 4000000 in
set_option maxRecDepth 100000 in
theorem w_L_tour_J369 {X : Cx} (C : CxOK X cL_tour RL rm_L_tour) (hn : xn X = 12) {S0 : Hp} {o : Int32 × Hp} (hQ : QI X (some .boolean) S0 0 0 o) {kout : Hp → Option Nat → Int32 → Int32 → Int32 → UInt64 → Int32 → Int32 → Option (Int32 × Hp)} (HK : ∀ (S : Hp) (y0 : Option Nat) (y1 : Int32) (y3 : Int32) (y5 : Int32) (y6 : UInt64) (y8 : Int32) (y9 : Int32), kout S y0 y1 y3 y5 y6 y8 y9 = some o → GW X 0 0 S 289 [(0, va_rf y0), (1, .int y1), (3, .int y3), (5, .int y5), (6, .double y6), (8, .int y8), (9, .int y9)] [])  (S : Hp) (y0 : Option Nat) (y1 : Int32) (y3 : Int32) (y5 : Int32) (y6 : UInt64) (y9 : Int32) (z0 : Int32) (h : f_L_tour_J369 kout S y0 y1 y3 y5 y6 y9 z0 = some o) : GW X 0 0 S 369 [(0, va_rf y0), (1, .int y1), (3, .int y3), (5, .int y5), (6, .double y6), (9, .int y9)] [.int z0] := by
  have hn8 : 8 < xn X := by rw [hn]; decide
  have hn9 : 9 < xn X := by rw [hn]; decide
  unfold f_L_tour_J369 at h
  refine g_istore C (i := 8) (lv' := [(8, .int z0), (0, va_rf y0), (1, .int y1), (3, .int y3), (5, .int y5), (6, .double y6), (9, .int y9)]) dL_tour_369 hn8 rfl ?_
  obtain ⟨v1, ev1, h⟩ := bnd_ex h
  refine g_iinc C (i := 9) (lv' := [(9, .int v1), (8, .int z0), (0, va_rf y0), (1, .int y1), (3, .int y3), (5, .int y5), (6, .double y6)]) (q := 6) v1 dL_tour_371 rfl ev1 hn9 rfl ?_
  refine g_goto C (tgt := 289) dL_tour_374 (by decide) ?_
  refine g_sub (lv' := [(0, va_rf y0), (1, .int y1), (3, .int y3), (5, .int y5), (6, .double y6), (8, .int z0), (9, .int v1)]) [2, 3, 4, 5, 6, 1, 0] rfl ?_
  exact HK S y0 y1 y3 y5 y6 z0 v1 h

set_option maxHeartbeats 4000000 in
set_option maxRecDepth 100000 in
theorem w_L_tour_J368 {X : Cx} (C : CxOK X cL_tour RL rm_L_tour) (hn : xn X = 12) {S0 : Hp} {o : Int32 × Hp} (hQ : QI X (some .boolean) S0 0 0 o) {kout : Hp → Option Nat → Int32 → Int32 → Int32 → UInt64 → Int32 → Int32 → Option (Int32 × Hp)} (HK : ∀ (S : Hp) (y0 : Option Nat) (y1 : Int32) (y3 : Int32) (y5 : Int32) (y6 : UInt64) (y8 : Int32) (y9 : Int32), kout S y0 y1 y3 y5 y6 y8 y9 = some o → GW X 0 0 S 289 [(0, va_rf y0), (1, .int y1), (3, .int y3), (5, .int y5), (6, .double y6), (8, .int y8), (9, .int y9)] [])  (S : Hp) (y0 : Option Nat) (y1 : Int32) (y3 : Int32) (y5 : Int32) (y6 : UInt64) (y9 : Int32) (h : f_L_tour_J368 kout S y0 y1 y3 y5 y6 y9 = some o) : GW X 0 0 S 368 [(0, va_rf y0), (1, .int y1), (3, .int y3), (5, .int y5), (6, .double y6), (9, .int y9)] [] := by
  unfold f_L_tour_J368 at h
  refine g_iconst C (v := 0) dL_tour_368 (by decide) ?_
  refine g_sub (lv' := [(0, va_rf y0), (1, .int y1), (3, .int y3), (5, .int y5), (6, .double y6), (9, .int y9)]) [0, 1, 2, 3, 4, 5] rfl ?_
  exact w_L_tour_J369 C hn hQ HK S y0 y1 y3 y5 y6 y9 (0 : Int32) h

set_option maxHeartbeats 4000000 in
set_option maxRecDepth 100000 in
theorem w_L_tour_J364 {X : Cx} (C : CxOK X cL_tour RL rm_L_tour) (hn : xn X = 12) {S0 : Hp} {o : Int32 × Hp} (hQ : QI X (some .boolean) S0 0 0 o) {kout : Hp → Option Nat → Int32 → Int32 → Int32 → UInt64 → Int32 → Int32 → Option (Int32 × Hp)} (HK : ∀ (S : Hp) (y0 : Option Nat) (y1 : Int32) (y3 : Int32) (y5 : Int32) (y6 : UInt64) (y8 : Int32) (y9 : Int32), kout S y0 y1 y3 y5 y6 y8 y9 = some o → GW X 0 0 S 289 [(0, va_rf y0), (1, .int y1), (3, .int y3), (5, .int y5), (6, .double y6), (8, .int y8), (9, .int y9)] [])  (S : Hp) (y0 : Option Nat) (y1 : Int32) (y3 : Int32) (y5 : Int32) (y6 : UInt64) (y9 : Int32) (h : f_L_tour_J364 kout S y0 y1 y3 y5 y6 y9 = some o) : GW X 0 0 S 364 [(0, va_rf y0), (1, .int y1), (3, .int y3), (5, .int y5), (6, .double y6), (9, .int y9)] [] := by
  unfold f_L_tour_J364 at h
  refine g_iconst C (v := 1) dL_tour_364 (by decide) ?_
  refine g_goto C (tgt := 369) dL_tour_365 (by decide) ?_
  refine g_sub (lv' := [(0, va_rf y0), (1, .int y1), (3, .int y3), (5, .int y5), (6, .double y6), (9, .int y9)]) [0, 1, 2, 3, 4, 5] rfl ?_
  exact w_L_tour_J369 C hn hQ HK S y0 y1 y3 y5 y6 y9 (1 : Int32) h

set_option maxHeartbeats 4000000 in
set_option maxRecDepth 100000 in
theorem w_L_tour_J335 {X : Cx} (C : CxOK X cL_tour RL rm_L_tour) (hn : xn X = 12) {S0 : Hp} {o : Int32 × Hp} (hQ : QI X (some .boolean) S0 0 0 o) {kout : Hp → Option Nat → Int32 → Int32 → Int32 → UInt64 → Int32 → Int32 → Option (Int32 × Hp)} (HK : ∀ (S : Hp) (y0 : Option Nat) (y1 : Int32) (y3 : Int32) (y5 : Int32) (y6 : UInt64) (y8 : Int32) (y9 : Int32), kout S y0 y1 y3 y5 y6 y8 y9 = some o → GW X 0 0 S 289 [(0, va_rf y0), (1, .int y1), (3, .int y3), (5, .int y5), (6, .double y6), (8, .int y8), (9, .int y9)] [])  (S : Hp) (y0 : Option Nat) (y1 : Int32) (y3 : Int32) (y5 : Int32) (y6 : UInt64) (y8 : Int32) (y9 : Int32) (y10 : Int32) (z0 : Int32) (z1 : Int32) (h : f_L_tour_J335 kout S y0 y1 y3 y5 y6 y8 y9 y10 z0 z1 = some o) : GW X 0 0 S 335 [(0, va_rf y0), (1, .int y1), (3, .int y3), (5, .int y5), (6, .double y6), (8, .int y8), (9, .int y9), (10, .int y10)] [.int z0, .int z1] := by
  unfold f_L_tour_J335 at h
  refine g_icmp_eq C (tgt := 340) dL_tour_335 (by decide) h (fun h => ?_) (fun h => ?_)
  · refine g_iload C (q := 5) dL_tour_340 rfl ?_
    refine g_if_eq C (tgt := 368) dL_tour_342 (by decide) h (fun h => ?_) (fun h => ?_)
    · refine g_sub (lv' := [(0, va_rf y0), (1, .int y1), (3, .int y3), (5, .int y5), (6, .double y6), (9, .int y9)]) [0, 1, 2, 3, 4, 6] rfl ?_
      exact w_L_tour_J368 C hn hQ HK S y0 y1 y3 y5 y6 y9 h
    · refine g_aload_n C (q := 0) dL_tour_345 rfl rfl ?_
      refine g_iload_n C (q := 1) dL_tour_346 rfl rfl ?_
      refine g_iconst C (v := 2) dL_tour_347 (by decide) ?_
      refine g_callVI C (ci := 5) (As := [.int y1, .int 2]) (np := 2) (st := []) (r := y0) rfl (by decide) (fun b1 q hq => c_X5_tour S b1 y1 (2 : Int32) q hq) gv_RL_X5_tour rfl rfl dsX5_tour rfl ⟨Nat.le_of_ble_eq_true rfl, Nat.le_of_ble_eq_true rfl⟩ rfl (cat_sum (Nat.le_of_ble_eq_true rfl)) ⟨Nat.zero_le _, Nat.zero_le _⟩ dL_tour_348 h (fun v1 S1 h => ?_)
      refine g_iload C (q := 6) dL_tour_351 rfl ?_
      refine g_ishr C dL_tour_353 ?_
      refine g_iconst C (v := 1) dL_tour_354 (by decide) ?_
      refine g_iand C dL_tour_355 ?_
      refine g_if_eq C (tgt := 364) dL_tour_356 (by decide) h (fun h => ?_) (fun h => ?_)
      · refine g_sub (lv' := [(0, va_rf y0), (1, .int y1), (3, .int y3), (5, .int y5), (6, .double y6), (9, .int y9)]) [0, 1, 2, 3, 4, 6] rfl ?_
        exact w_L_tour_J364 C hn hQ HK S1 y0 y1 y3 y5 y6 y9 h
      · refine g_iload C (q := 7) dL_tour_359 rfl ?_
        refine g_if_eq C (tgt := 368) dL_tour_361 (by decide) h (fun h => ?_) (fun h => ?_)
        · refine g_sub (lv' := [(0, va_rf y0), (1, .int y1), (3, .int y3), (5, .int y5), (6, .double y6), (9, .int y9)]) [0, 1, 2, 3, 4, 6] rfl ?_
          exact w_L_tour_J368 C hn hQ HK S1 y0 y1 y3 y5 y6 y9 h
        · refine g_sub (lv' := [(0, va_rf y0), (1, .int y1), (3, .int y3), (5, .int y5), (6, .double y6), (9, .int y9)]) [0, 1, 2, 3, 4, 6] rfl ?_
          exact w_L_tour_J364 C hn hQ HK S1 y0 y1 y3 y5 y6 y9 h
  · refine g_iconst C (v := 0) dL_tour_338 (by decide) ?_
    exact g_zret C hQ (by decide) dL_tour_339 h

set_option maxHeartbeats 4000000 in
set_option maxRecDepth 100000 in
theorem w_L_tour_J316 {X : Cx} (C : CxOK X cL_tour RL rm_L_tour) (hn : xn X = 12) {S0 : Hp} {o : Int32 × Hp} (hQ : QI X (some .boolean) S0 0 0 o) {kout : Hp → Option Nat → Int32 → Int32 → Int32 → UInt64 → Int32 → Int32 → Option (Int32 × Hp)} (HK : ∀ (S : Hp) (y0 : Option Nat) (y1 : Int32) (y3 : Int32) (y5 : Int32) (y6 : UInt64) (y8 : Int32) (y9 : Int32), kout S y0 y1 y3 y5 y6 y8 y9 = some o → GW X 0 0 S 289 [(0, va_rf y0), (1, .int y1), (3, .int y3), (5, .int y5), (6, .double y6), (8, .int y8), (9, .int y9)] [])  (S : Hp) (y0 : Option Nat) (y1 : Int32) (y3 : Int32) (y5 : Int32) (y6 : UInt64) (y8 : Int32) (y9 : Int32) (z0 : Int32) (h : f_L_tour_J316 kout S y0 y1 y3 y5 y6 y8 y9 z0 = some o) : GW X 0 0 S 316 [(0, va_rf y0), (1, .int y1), (3, .int y3), (5, .int y5), (6, .double y6), (8, .int y8), (9, .int y9)] [.int z0] := by
  have hn10 : 10 < xn X := by rw [hn]; decide
  unfold f_L_tour_J316 at h
  refine g_istore C (i := 10) (lv' := [(10, .int z0), (0, va_rf y0), (1, .int y1), (3, .int y3), (5, .int y5), (6, .double y6), (8, .int y8), (9, .int y9)]) dL_tour_316 hn10 rfl ?_
  refine g_aload_n C (q := 1) dL_tour_318 rfl rfl ?_
  refine g_iload_n C (q := 2) dL_tour_319 rfl rfl ?_
  refine g_iload C (q := 7) dL_tour_320 rfl ?_
  refine g_callVI C (ci := 5) (As := [.int y1, .int y9]) (np := 2) (st := []) (r := y0) rfl (by decide) (fun b1 q hq => c_X5_holds S b1 y1 y9 q hq) gv_RL_X5_holds rfl rfl dsX5_holds rfl ⟨Nat.le_of_ble_eq_true rfl, Nat.le_of_ble_eq_true rfl⟩ rfl (cat_sum (Nat.le_of_ble_eq_true rfl)) ⟨Nat.zero_le _, Nat.zero_le _⟩ dL_tour_322 h (fun v1 S1 h => ?_)
  refine g_iload C (q := 0) dL_tour_325 rfl ?_
  refine g_if_eq C (tgt := 334) dL_tour_327 (by decide) h (fun h => ?_) (fun h => ?_)
  · refine g_iconst C (v := 0) dL_tour_334 (by decide) ?_
    refine g_sub (lv' := [(0, va_rf y0), (1, .int y1), (3, .int y3), (5, .int y5), (6, .double y6), (8, .int y8), (9, .int y9), (10, .int z0)]) [1, 2, 3, 4, 5, 6, 7, 0] rfl ?_
    exact w_L_tour_J335 C hn hQ HK S1 y0 y1 y3 y5 y6 y8 y9 z0 (0 : Int32) v1 h
  · refine g_iconst C (v := 1) dL_tour_330 (by decide) ?_
    refine g_goto C (tgt := 335) dL_tour_331 (by decide) ?_
    refine g_sub (lv' := [(0, va_rf y0), (1, .int y1), (3, .int y3), (5, .int y5), (6, .double y6), (8, .int y8), (9, .int y9), (10, .int z0)]) [1, 2, 3, 4, 5, 6, 7, 0] rfl ?_
    exact w_L_tour_J335 C hn hQ HK S1 y0 y1 y3 y5 y6 y8 y9 z0 (1 : Int32) v1 h

set_option maxHeartbeats 4000000 in
set_option maxRecDepth 100000 in
theorem w_L_tour_L289 {X : Cx} (C : CxOK X cL_tour RL rm_L_tour) (hn : xn X = 12) {S0 : Hp} {o : Int32 × Hp} (hQ : QI X (some .boolean) S0 0 0 o) : ∀ (fuel : Nat) (S : Hp) (y0 : Option Nat) (y1 : Int32) (y3 : Int32) (y5 : Int32) (y6 : UInt64) (y8 : Int32) (y9 : Int32), f_L_tour_L289 fuel S y0 y1 y3 y5 y6 y8 y9 = some o → GW X 0 0 S 289 [(0, va_rf y0), (1, .int y1), (3, .int y3), (5, .int y5), (6, .double y6), (8, .int y8), (9, .int y9)] [] := by
  intro fuel
  induction fuel with
  | zero => intro S y0 y1 y3 y5 y6 y8 y9 h; cases (show none = some o from h)
  | succ fuel ih =>
    intro S y0 y1 y3 y5 y6 y8 y9 h
    have h : f_L_tour_L289_b (f_L_tour_L289 fuel) S y0 y1 y3 y5 y6 y8 y9 = some o := h
    unfold f_L_tour_L289_b at h
    refine g_iload C (q := 6) dL_tour_289 rfl ?_
    refine g_aload_n C (q := 0) dL_tour_291 rfl rfl ?_
    refine g_iconst C (v := 2) dL_tour_292 (by decide) ?_
    refine g_callVI C (ci := 5) (As := [.int 2]) (np := 1) (st := [.int y9]) (r := y0) rfl (by decide) (fun b1 q hq => c_X5_count S b1 (2 : Int32) q hq) gv_RL_X5_count rfl rfl dsX5_count rfl ⟨Nat.le_of_ble_eq_true rfl, Nat.le_of_ble_eq_true rfl⟩ rfl (cat_sum (Nat.le_of_ble_eq_true rfl)) ⟨Nat.zero_le _, Nat.zero_le _⟩ dL_tour_293 h (fun v1 S1 h => ?_)
    refine g_icmp_ge C (tgt := 377) dL_tour_296 (by decide) h (fun h => ?_) (fun h => ?_)
    · refine g_aload_n C (q := 0) dL_tour_377 rfl rfl ?_
      refine g_iload_n C (q := 1) dL_tour_378 rfl rfl ?_
      refine g_iconst C (v := 3) dL_tour_379 (by decide) ?_
      refine g_callVI C (ci := 5) (As := [.int y1, .int 3]) (np := 2) (st := []) (r := y0) rfl (by decide) (fun b2 q hq => c_X5_tour S1 b2 y1 (3 : Int32) q hq) gv_RL_X5_tour rfl rfl dsX5_tour rfl ⟨Nat.le_of_ble_eq_true rfl, Nat.le_of_ble_eq_true rfl⟩ rfl (cat_sum (Nat.le_of_ble_eq_true rfl)) ⟨Nat.zero_le _, Nat.zero_le _⟩ dL_tour_380 h (fun v2 S2 h => ?_)
      refine g_if_ne C (tgt := 390) dL_tour_383 (by decide) h (fun h => ?_) (fun h => ?_)
      · refine g_iconst C (v := 1) dL_tour_386 (by decide) ?_
        refine g_goto C (tgt := 413) dL_tour_387 (by decide) ?_
        refine g_sub (lv' := [(0, va_rf y0), (1, .int y1), (3, .int y3), (6, .double y6)]) [0, 1, 2, 4] rfl ?_
        exact w_L_tour_J413 C hn hQ S2 y0 y1 y3 y6 (1 : Int32) h
      · refine g_iload C (q := 5) dL_tour_390 rfl ?_
        refine g_if_ne C (tgt := 399) dL_tour_392 (by decide) h (fun h => ?_) (fun h => ?_)
        · refine g_iconst C (v := 2) dL_tour_395 (by decide) ?_
          refine g_goto C (tgt := 413) dL_tour_396 (by decide) ?_
          refine g_sub (lv' := [(0, va_rf y0), (1, .int y1), (3, .int y3), (6, .double y6)]) [0, 1, 2, 4] rfl ?_
          exact w_L_tour_J413 C hn hQ S2 y0 y1 y3 y6 (2 : Int32) h
        · refine g_iload_n C (q := 2) dL_tour_399 rfl rfl ?_
          refine g_if_gt C (tgt := 408) dL_tour_400 (by decide) h (fun h => ?_) (fun h => ?_)
          · refine g_sub (lv' := [(0, va_rf y0), (1, .int y1), (3, .int y3), (6, .double y6)]) [0, 1, 2, 4] rfl ?_
            exact w_L_tour_J408 C hn hQ S2 y0 y1 y3 y6 h
          · refine g_iload C (q := 3) dL_tour_403 rfl ?_
            refine g_if_ne C (tgt := 412) dL_tour_405 (by decide) h (fun h => ?_) (fun h => ?_)
            · refine g_sub (lv' := [(0, va_rf y0), (1, .int y1), (3, .int y3), (6, .double y6)]) [0, 1, 2, 4] rfl ?_
              exact w_L_tour_J408 C hn hQ S2 y0 y1 y3 y6 h
            · refine g_iconst C (v := 0) dL_tour_412 (by decide) ?_
              refine g_sub (lv' := [(0, va_rf y0), (1, .int y1), (3, .int y3), (6, .double y6)]) [0, 1, 2, 4] rfl ?_
              exact w_L_tour_J413 C hn hQ S2 y0 y1 y3 y6 (0 : Int32) h
    · refine g_aload_n C (q := 0) dL_tour_299 rfl rfl ?_
      refine g_iload C (q := 6) dL_tour_300 rfl ?_
      refine g_callVD C (ci := 5) (As := [.int y9]) (np := 1) (st := []) (r := y0) rfl (by decide) (fun b3 q hq => c_X5_thickness S1 b3 y9 q hq) gv_RL_X5_thickness rfl rfl dsX5_thickness rfl ⟨Nat.le_of_ble_eq_true rfl, Nat.le_of_ble_eq_true rfl⟩ rfl (cat_sum (Nat.le_of_ble_eq_true rfl)) ⟨Nat.zero_le _, Nat.zero_le _⟩ dL_tour_302 h (fun e1 S3 h => ?_)
      refine g_dload C (q := 4) dL_tour_305 rfl ?_
      refine g_dcmp C dL_tour_307 ?_
      refine g_if_lt C (tgt := 315) dL_tour_308 (by decide) h (fun h => ?_) (fun h => ?_)
      · refine g_iconst C (v := 0) dL_tour_315 (by decide) ?_
        refine g_sub (lv' := [(0, va_rf y0), (1, .int y1), (3, .int y3), (5, .int y5), (6, .double y6), (8, .int y8), (9, .int y9)]) [0, 1, 2, 3, 4, 5, 6] rfl ?_
        exact w_L_tour_J316 C hn hQ (fun S y0 y1 y3 y5 y6 y8 y9 h => ih S y0 y1 y3 y5 y6 y8 y9 h) S3 y0 y1 y3 y5 y6 y8 y9 (0 : Int32) h
      · refine g_iconst C (v := 1) dL_tour_311 (by decide) ?_
        refine g_goto C (tgt := 316) dL_tour_312 (by decide) ?_
        refine g_sub (lv' := [(0, va_rf y0), (1, .int y1), (3, .int y3), (5, .int y5), (6, .double y6), (8, .int y8), (9, .int y9)]) [0, 1, 2, 3, 4, 5, 6] rfl ?_
        exact w_L_tour_J316 C hn hQ (fun S y0 y1 y3 y5 y6 y8 y9 h => ih S y0 y1 y3 y5 y6 y8 y9 h) S3 y0 y1 y3 y5 y6 y8 y9 (1 : Int32) h

set_option maxHeartbeats 4000000 in
set_option maxRecDepth 100000 in
theorem w_L_tour_J262 {X : Cx} (C : CxOK X cL_tour RL rm_L_tour) (hn : xn X = 12) {S0 : Hp} {o : Int32 × Hp} (hQ : QI X (some .boolean) S0 0 0 o) {kout : Hp → Option Nat → Int32 → Int32 → Int32 → Int32 → Int32 → Int32 → Option (Int32 × Hp)} (HK : ∀ (S : Hp) (y0 : Option Nat) (y1 : Int32) (y2 : Int32) (y3 : Int32) (y4 : Int32) (y5 : Int32) (y6 : Int32), kout S y0 y1 y2 y3 y4 y5 y6 = some o → GW X 0 0 S 24 [(0, va_rf y0), (1, .int y1), (2, .int y2), (3, .int y3), (4, .int y4), (5, .int y5), (6, .int y6)] [])  (S : Hp) (y0 : Option Nat) (y1 : Int32) (y2 : Int32) (y3 : Int32) (y4 : Int32) (y5 : Int32) (y6 : Int32) (h : f_L_tour_J262 kout S y0 y1 y2 y3 y4 y5 y6 = some o) : GW X 0 0 S 262 [(0, va_rf y0), (1, .int y1), (2, .int y2), (3, .int y3), (4, .int y4), (5, .int y5), (6, .int y6)] [] := by
  have hn6 : 6 < xn X := by rw [hn]; decide
  unfold f_L_tour_J262 at h
  obtain ⟨v1, ev1, h⟩ := bnd_ex h
  refine g_iinc C (i := 6) (lv' := [(6, .int v1), (0, va_rf y0), (1, .int y1), (2, .int y2), (3, .int y3), (4, .int y4), (5, .int y5)]) (q := 6) v1 dL_tour_262 rfl ev1 hn6 rfl ?_
  refine g_goto C (tgt := 24) dL_tour_265 (by decide) ?_
  refine g_sub (lv' := [(0, va_rf y0), (1, .int y1), (2, .int y2), (3, .int y3), (4, .int y4), (5, .int y5), (6, .int v1)]) [1, 2, 3, 4, 5, 6, 0] rfl ?_
  exact HK S y0 y1 y2 y3 y4 y5 v1 h

set_option maxHeartbeats 4000000 in
set_option maxRecDepth 100000 in
theorem w_L_tour_J256 {X : Cx} (C : CxOK X cL_tour RL rm_L_tour) (hn : xn X = 12) {S0 : Hp} {o : Int32 × Hp} (hQ : QI X (some .boolean) S0 0 0 o) {kout : Hp → Option Nat → Int32 → Int32 → Int32 → Int32 → Int32 → Int32 → Int32 → Int32 → Option (Int32 × Hp)} (HK : ∀ (S : Hp) (y0 : Option Nat) (y1 : Int32) (y2 : Int32) (y3 : Int32) (y4 : Int32) (y5 : Int32) (y6 : Int32) (y7 : Int32) (y10 : Int32), kout S y0 y1 y2 y3 y4 y5 y6 y7 y10 = some o → GW X 0 0 S 166 [(0, va_rf y0), (1, .int y1), (2, .int y2), (3, .int y3), (4, .int y4), (5, .int y5), (6, .int y6), (7, .int y7), (10, .int y10)] [])  (S : Hp) (y0 : Option Nat) (y1 : Int32) (y2 : Int32) (y3 : Int32) (y4 : Int32) (y5 : Int32) (y6 : Int32) (y7 : Int32) (y10 : Int32) (h : f_L_tour_J256 kout S y0 y1 y2 y3 y4 y5 y6 y7 y10 = some o) : GW X 0 0 S 256 [(0, va_rf y0), (1, .int y1), (2, .int y2), (3, .int y3), (4, .int y4), (5, .int y5), (6, .int y6), (7, .int y7), (10, .int y10)] [] := by
  have hn10 : 10 < xn X := by rw [hn]; decide
  unfold f_L_tour_J256 at h
  obtain ⟨v1, ev1, h⟩ := bnd_ex h
  refine g_iinc C (i := 10) (lv' := [(10, .int v1), (0, va_rf y0), (1, .int y1), (2, .int y2), (3, .int y3), (4, .int y4), (5, .int y5), (6, .int y6), (7, .int y7)]) (q := 8) v1 dL_tour_256 rfl ev1 hn10 rfl ?_
  refine g_goto C (tgt := 166) dL_tour_259 (by decide) ?_
  refine g_sub (lv' := [(0, va_rf y0), (1, .int y1), (2, .int y2), (3, .int y3), (4, .int y4), (5, .int y5), (6, .int y6), (7, .int y7), (10, .int v1)]) [1, 2, 3, 4, 5, 6, 7, 8, 0] rfl ?_
  exact HK S y0 y1 y2 y3 y4 y5 y6 y7 v1 h

set_option maxHeartbeats 4000000 in
set_option maxRecDepth 100000 in
theorem w_L_tour_J250 {X : Cx} (C : CxOK X cL_tour RL rm_L_tour) (hn : xn X = 12) {S0 : Hp} {o : Int32 × Hp} (hQ : QI X (some .boolean) S0 0 0 o) {kout : Hp → Option Nat → Int32 → Int32 → Int32 → Int32 → Int32 → Int32 → Int32 → Int32 → Int32 → Option (Int32 × Hp)} (HK : ∀ (S : Hp) (y0 : Option Nat) (y1 : Int32) (y2 : Int32) (y3 : Int32) (y4 : Int32) (y5 : Int32) (y6 : Int32) (y7 : Int32) (y10 : Int32) (y11 : Int32), kout S y0 y1 y2 y3 y4 y5 y6 y7 y10 y11 = some o → GW X 0 0 S 189 [(0, va_rf y0), (1, .int y1), (2, .int y2), (3, .int y3), (4, .int y4), (5, .int y5), (6, .int y6), (7, .int y7), (10, .int y10), (11, .int y11)] [])  (S : Hp) (y0 : Option Nat) (y1 : Int32) (y2 : Int32) (y3 : Int32) (y4 : Int32) (y5 : Int32) (y6 : Int32) (y7 : Int32) (y10 : Int32) (y11 : Int32) (h : f_L_tour_J250 kout S y0 y1 y2 y3 y4 y5 y6 y7 y10 y11 = some o) : GW X 0 0 S 250 [(0, va_rf y0), (1, .int y1), (2, .int y2), (3, .int y3), (4, .int y4), (5, .int y5), (6, .int y6), (7, .int y7), (10, .int y10), (11, .int y11)] [] := by
  have hn11 : 11 < xn X := by rw [hn]; decide
  unfold f_L_tour_J250 at h
  obtain ⟨v1, ev1, h⟩ := bnd_ex h
  refine g_iinc C (i := 11) (lv' := [(11, .int v1), (0, va_rf y0), (1, .int y1), (2, .int y2), (3, .int y3), (4, .int y4), (5, .int y5), (6, .int y6), (7, .int y7), (10, .int y10)]) (q := 9) v1 dL_tour_250 rfl ev1 hn11 rfl ?_
  refine g_goto C (tgt := 189) dL_tour_253 (by decide) ?_
  refine g_sub (lv' := [(0, va_rf y0), (1, .int y1), (2, .int y2), (3, .int y3), (4, .int y4), (5, .int y5), (6, .int y6), (7, .int y7), (10, .int y10), (11, .int v1)]) [1, 2, 3, 4, 5, 6, 7, 8, 9, 0] rfl ?_
  exact HK S y0 y1 y2 y3 y4 y5 y6 y7 y10 v1 h

set_option maxHeartbeats 4000000 in
set_option maxRecDepth 100000 in
theorem w_L_tour_L189 {X : Cx} (C : CxOK X cL_tour RL rm_L_tour) (hn : xn X = 12) {S0 : Hp} {o : Int32 × Hp} (hQ : QI X (some .boolean) S0 0 0 o) {kout : Hp → Option Nat → Int32 → Int32 → Int32 → Int32 → Int32 → Int32 → Int32 → Int32 → Option (Int32 × Hp)} (HK : ∀ (S : Hp) (y0 : Option Nat) (y1 : Int32) (y2 : Int32) (y3 : Int32) (y4 : Int32) (y5 : Int32) (y6 : Int32) (y7 : Int32) (y10 : Int32), kout S y0 y1 y2 y3 y4 y5 y6 y7 y10 = some o → GW X 0 0 S 166 [(0, va_rf y0), (1, .int y1), (2, .int y2), (3, .int y3), (4, .int y4), (5, .int y5), (6, .int y6), (7, .int y7), (10, .int y10)] []) : ∀ (fuel : Nat) (S : Hp) (y0 : Option Nat) (y1 : Int32) (y2 : Int32) (y3 : Int32) (y4 : Int32) (y5 : Int32) (y6 : Int32) (y7 : Int32) (y10 : Int32) (y11 : Int32), f_L_tour_L189 kout fuel S y0 y1 y2 y3 y4 y5 y6 y7 y10 y11 = some o → GW X 0 0 S 189 [(0, va_rf y0), (1, .int y1), (2, .int y2), (3, .int y3), (4, .int y4), (5, .int y5), (6, .int y6), (7, .int y7), (10, .int y10), (11, .int y11)] [] := by
  intro fuel
  induction fuel with
  | zero => intro S y0 y1 y2 y3 y4 y5 y6 y7 y10 y11 h; cases (show none = some o from h)
  | succ fuel ih =>
    intro S y0 y1 y2 y3 y4 y5 y6 y7 y10 y11 h
    have h : f_L_tour_L189_b kout (f_L_tour_L189 kout fuel) S y0 y1 y2 y3 y4 y5 y6 y7 y10 y11 = some o := h
    unfold f_L_tour_L189_b at h
    refine g_iload C (q := 9) dL_tour_189 rfl ?_
    refine g_aload_n C (q := 0) dL_tour_191 rfl rfl ?_
    refine g_iload C (q := 8) dL_tour_192 rfl ?_
    refine g_iconst C (v := 4) dL_tour_194 (by decide) ?_
    refine g_callVI C (ci := 5) (As := [.int y10, .int 4]) (np := 2) (st := [.int y11]) (r := y0) rfl (by decide) (fun b1 q hq => c_X5_tour S b1 y10 (4 : Int32) q hq) gv_RL_X5_tour rfl rfl dsX5_tour rfl ⟨Nat.le_of_ble_eq_true rfl, Nat.le_of_ble_eq_true rfl⟩ rfl (cat_sum (Nat.le_of_ble_eq_true rfl)) ⟨Nat.zero_le _, Nat.zero_le _⟩ dL_tour_195 h (fun v1 S1 h => ?_)
    refine g_icmp_ge C (tgt := 256) dL_tour_198 (by decide) h (fun h => ?_) (fun h => ?_)
    · refine g_sub (lv' := [(0, va_rf y0), (1, .int y1), (2, .int y2), (3, .int y3), (4, .int y4), (5, .int y5), (6, .int y6), (7, .int y7), (10, .int y10)]) [0, 1, 2, 3, 4, 5, 6, 7, 8] rfl ?_
      exact w_L_tour_J256 C hn hQ HK S1 y0 y1 y2 y3 y4 y5 y6 y7 y10 h
    · refine g_iload C (q := 8) dL_tour_201 rfl ?_
      refine g_iload_n C (q := 1) dL_tour_203 rfl rfl ?_
      refine g_icmp_eq C (tgt := 256) dL_tour_204 (by decide) h (fun h => ?_) (fun h => ?_)
      · refine g_sub (lv' := [(0, va_rf y0), (1, .int y1), (2, .int y2), (3, .int y3), (4, .int y4), (5, .int y5), (6, .int y6), (7, .int y7), (10, .int y10)]) [0, 1, 2, 3, 4, 5, 6, 7, 8] rfl ?_
        exact w_L_tour_J256 C hn hQ HK S1 y0 y1 y2 y3 y4 y5 y6 y7 y10 h
      · refine g_aload_n C (q := 0) dL_tour_207 rfl rfl ?_
        refine g_iload C (q := 8) dL_tour_208 rfl ?_
        refine g_bipush C (v := 6) dL_tour_210 (by decide) ?_
        refine g_callVI C (ci := 5) (As := [.int y10, .int 6]) (np := 2) (st := []) (r := y0) rfl (by decide) (fun b2 q hq => c_X5_tour S1 b2 y10 (6 : Int32) q hq) gv_RL_X5_tour rfl rfl dsX5_tour rfl ⟨Nat.le_of_ble_eq_true rfl, Nat.le_of_ble_eq_true rfl⟩ rfl (cat_sum (Nat.le_of_ble_eq_true rfl)) ⟨Nat.zero_le _, Nat.zero_le _⟩ dL_tour_212 h (fun v2 S2 h => ?_)
        refine g_if_ne C (tgt := 250) dL_tour_215 (by decide) h (fun h => ?_) (fun h => ?_)
        · refine g_aload_n C (q := 0) dL_tour_218 rfl rfl ?_
          refine g_iload C (q := 8) dL_tour_219 rfl ?_
          refine g_iconst C (v := 0) dL_tour_221 (by decide) ?_
          refine g_callVI C (ci := 5) (As := [.int y10, .int 0]) (np := 2) (st := []) (r := y0) rfl (by decide) (fun b3 q hq => c_X5_tour S2 b3 y10 (0 : Int32) q hq) gv_RL_X5_tour rfl rfl dsX5_tour rfl ⟨Nat.le_of_ble_eq_true rfl, Nat.le_of_ble_eq_true rfl⟩ rfl (cat_sum (Nat.le_of_ble_eq_true rfl)) ⟨Nat.zero_le _, Nat.zero_le _⟩ dL_tour_222 h (fun v3 S3 h => ?_)
          refine g_aload_n C (q := 0) dL_tour_225 rfl rfl ?_
          refine g_iload_n C (q := 1) dL_tour_226 rfl rfl ?_
          refine g_iconst C (v := 0) dL_tour_227 (by decide) ?_
          refine g_callVI C (ci := 5) (As := [.int y1, .int 0]) (np := 2) (st := [.int v3]) (r := y0) rfl (by decide) (fun b4 q hq => c_X5_tour S3 b4 y1 (0 : Int32) q hq) gv_RL_X5_tour rfl rfl dsX5_tour rfl ⟨Nat.le_of_ble_eq_true rfl, Nat.le_of_ble_eq_true rfl⟩ rfl (cat_sum (Nat.le_of_ble_eq_true rfl)) ⟨Nat.zero_le _, Nat.zero_le _⟩ dL_tour_228 h (fun v4 S4 h => ?_)
          refine g_icmp_ne C (tgt := 250) dL_tour_231 (by decide) h (fun h => ?_) (fun h => ?_)
          · refine g_aload_n C (q := 0) dL_tour_234 rfl rfl ?_
            refine g_iload C (q := 8) dL_tour_235 rfl ?_
            refine g_iload C (q := 9) dL_tour_237 rfl ?_
            refine g_iconst C (v := 0) dL_tour_239 (by decide) ?_
            refine g_callVI C (ci := 5) (As := [.int y10, .int y11, .int 0]) (np := 3) (st := []) (r := y0) rfl (by decide) (fun b5 q hq => c_X5_rope S4 b5 y10 y11 (0 : Int32) q hq) gv_RL_X5_rope rfl rfl dsX5_rope rfl ⟨Nat.le_of_ble_eq_true rfl, Nat.le_of_ble_eq_true rfl⟩ rfl (cat_sum (Nat.le_of_ble_eq_true rfl)) ⟨Nat.zero_le _, Nat.zero_le _⟩ dL_tour_240 h (fun v5 S5 h => ?_)
            refine g_iload C (q := 7) dL_tour_243 rfl ?_
            refine g_icmp_ne C (tgt := 250) dL_tour_245 (by decide) h (fun h => ?_) (fun h => ?_)
            · refine g_iconst C (v := 0) dL_tour_248 (by decide) ?_
              exact g_zret C hQ (by decide) dL_tour_249 h
            · refine g_sub (lv' := [(0, va_rf y0), (1, .int y1), (2, .int y2), (3, .int y3), (4, .int y4), (5, .int y5), (6, .int y6), (7, .int y7), (10, .int y10), (11, .int y11)]) [0, 1, 2, 3, 4, 5, 6, 7, 8, 9] rfl ?_
              exact w_L_tour_J250 C hn hQ (fun S y0 y1 y2 y3 y4 y5 y6 y7 y10 y11 h => ih S y0 y1 y2 y3 y4 y5 y6 y7 y10 y11 h) S5 y0 y1 y2 y3 y4 y5 y6 y7 y10 y11 h
          · refine g_sub (lv' := [(0, va_rf y0), (1, .int y1), (2, .int y2), (3, .int y3), (4, .int y4), (5, .int y5), (6, .int y6), (7, .int y7), (10, .int y10), (11, .int y11)]) [0, 1, 2, 3, 4, 5, 6, 7, 8, 9] rfl ?_
            exact w_L_tour_J250 C hn hQ (fun S y0 y1 y2 y3 y4 y5 y6 y7 y10 y11 h => ih S y0 y1 y2 y3 y4 y5 y6 y7 y10 y11 h) S4 y0 y1 y2 y3 y4 y5 y6 y7 y10 y11 h
        · refine g_sub (lv' := [(0, va_rf y0), (1, .int y1), (2, .int y2), (3, .int y3), (4, .int y4), (5, .int y5), (6, .int y6), (7, .int y7), (10, .int y10), (11, .int y11)]) [0, 1, 2, 3, 4, 5, 6, 7, 8, 9] rfl ?_
          exact w_L_tour_J250 C hn hQ (fun S y0 y1 y2 y3 y4 y5 y6 y7 y10 y11 h => ih S y0 y1 y2 y3 y4 y5 y6 y7 y10 y11 h) S2 y0 y1 y2 y3 y4 y5 y6 y7 y10 y11 h

set_option maxHeartbeats 4000000 in
set_option maxRecDepth 100000 in
theorem w_L_tour_L166 {X : Cx} (C : CxOK X cL_tour RL rm_L_tour) (hn : xn X = 12) {S0 : Hp} {o : Int32 × Hp} (hQ : QI X (some .boolean) S0 0 0 o) {kout : Hp → Option Nat → Int32 → Int32 → Int32 → Int32 → Int32 → Int32 → Option (Int32 × Hp)} (HK : ∀ (S : Hp) (y0 : Option Nat) (y1 : Int32) (y2 : Int32) (y3 : Int32) (y4 : Int32) (y5 : Int32) (y6 : Int32), kout S y0 y1 y2 y3 y4 y5 y6 = some o → GW X 0 0 S 24 [(0, va_rf y0), (1, .int y1), (2, .int y2), (3, .int y3), (4, .int y4), (5, .int y5), (6, .int y6)] []) : ∀ (fuel : Nat) (S : Hp) (y0 : Option Nat) (y1 : Int32) (y2 : Int32) (y3 : Int32) (y4 : Int32) (y5 : Int32) (y6 : Int32) (y7 : Int32) (y10 : Int32), f_L_tour_L166 kout fuel S y0 y1 y2 y3 y4 y5 y6 y7 y10 = some o → GW X 0 0 S 166 [(0, va_rf y0), (1, .int y1), (2, .int y2), (3, .int y3), (4, .int y4), (5, .int y5), (6, .int y6), (7, .int y7), (10, .int y10)] [] := by
  have hn11 : 11 < xn X := by rw [hn]; decide
  intro fuel
  induction fuel with
  | zero => intro S y0 y1 y2 y3 y4 y5 y6 y7 y10 h; cases (show none = some o from h)
  | succ fuel ih =>
    intro S y0 y1 y2 y3 y4 y5 y6 y7 y10 h
    have h : f_L_tour_L166_b kout (f_L_tour_L166 kout fuel) S y0 y1 y2 y3 y4 y5 y6 y7 y10 = some o := h
    unfold f_L_tour_L166_b at h
    refine g_iload C (q := 8) dL_tour_166 rfl ?_
    refine g_aload_n C (q := 0) dL_tour_168 rfl rfl ?_
    refine g_iconst C (v := 3) dL_tour_169 (by decide) ?_
    refine g_callVI C (ci := 5) (As := [.int 3]) (np := 1) (st := [.int y10]) (r := y0) rfl (by decide) (fun b1 q hq => c_X5_count S b1 (3 : Int32) q hq) gv_RL_X5_count rfl rfl dsX5_count rfl ⟨Nat.le_of_ble_eq_true rfl, Nat.le_of_ble_eq_true rfl⟩ rfl (cat_sum (Nat.le_of_ble_eq_true rfl)) ⟨Nat.zero_le _, Nat.zero_le _⟩ dL_tour_170 h (fun v1 S1 h => ?_)
    refine g_icmp_ge C (tgt := 262) dL_tour_173 (by decide) h (fun h => ?_) (fun h => ?_)
    · refine g_sub (lv' := [(0, va_rf y0), (1, .int y1), (2, .int y2), (3, .int y3), (4, .int y4), (5, .int y5), (6, .int y6)]) [0, 1, 2, 3, 4, 5, 6] rfl ?_
      exact w_L_tour_J262 C hn hQ HK S1 y0 y1 y2 y3 y4 y5 y6 h
    · refine g_aload_n C (q := 0) dL_tour_176 rfl rfl ?_
      refine g_iload_n C (q := 1) dL_tour_177 rfl rfl ?_
      refine g_bipush C (v := 6) dL_tour_178 (by decide) ?_
      refine g_callVI C (ci := 5) (As := [.int y1, .int 6]) (np := 2) (st := []) (r := y0) rfl (by decide) (fun b2 q hq => c_X5_tour S1 b2 y1 (6 : Int32) q hq) gv_RL_X5_tour rfl rfl dsX5_tour rfl ⟨Nat.le_of_ble_eq_true rfl, Nat.le_of_ble_eq_true rfl⟩ rfl (cat_sum (Nat.le_of_ble_eq_true rfl)) ⟨Nat.zero_le _, Nat.zero_le _⟩ dL_tour_180 h (fun v2 S2 h => ?_)
      refine g_if_ne C (tgt := 262) dL_tour_183 (by decide) h (fun h => ?_) (fun h => ?_)
      · refine g_iconst C (v := 0) dL_tour_186 (by decide) ?_
        refine g_istore C (i := 11) (lv' := [(11, .int 0), (0, va_rf y0), (1, .int y1), (2, .int y2), (3, .int y3), (4, .int y4), (5, .int y5), (6, .int y6), (7, .int y7), (10, .int y10)]) dL_tour_187 hn11 rfl ?_
        refine g_sub (lv' := [(0, va_rf y0), (1, .int y1), (2, .int y2), (3, .int y3), (4, .int y4), (5, .int y5), (6, .int y6), (7, .int y7), (10, .int y10), (11, .int 0)]) [1, 2, 3, 4, 5, 6, 7, 8, 9, 0] rfl ?_
        exact w_L_tour_L189 C hn hQ (fun S y0 y1 y2 y3 y4 y5 y6 y7 y10 h => ih S y0 y1 y2 y3 y4 y5 y6 y7 y10 h) 1000 S2 y0 y1 y2 y3 y4 y5 y6 y7 y10 (0 : Int32) h
      · refine g_sub (lv' := [(0, va_rf y0), (1, .int y1), (2, .int y2), (3, .int y3), (4, .int y4), (5, .int y5), (6, .int y6)]) [0, 1, 2, 3, 4, 5, 6] rfl ?_
        exact w_L_tour_J262 C hn hQ HK S2 y0 y1 y2 y3 y4 y5 y6 h

set_option maxHeartbeats 4000000 in
set_option maxRecDepth 100000 in
theorem w_L_tour_J161 {X : Cx} (C : CxOK X cL_tour RL rm_L_tour) (hn : xn X = 12) {S0 : Hp} {o : Int32 × Hp} (hQ : QI X (some .boolean) S0 0 0 o) {kout : Hp → Option Nat → Int32 → Int32 → Int32 → Int32 → Int32 → Int32 → Option (Int32 × Hp)} (HK : ∀ (S : Hp) (y0 : Option Nat) (y1 : Int32) (y2 : Int32) (y3 : Int32) (y4 : Int32) (y5 : Int32) (y6 : Int32), kout S y0 y1 y2 y3 y4 y5 y6 = some o → GW X 0 0 S 24 [(0, va_rf y0), (1, .int y1), (2, .int y2), (3, .int y3), (4, .int y4), (5, .int y5), (6, .int y6)] [])  (S : Hp) (y0 : Option Nat) (y1 : Int32) (y2 : Int32) (y3 : Int32) (y4 : Int32) (y6 : Int32) (y7 : Int32) (z0 : Int32) (h : f_L_tour_J161 kout S y0 y1 y2 y3 y4 y6 y7 z0 = some o) : GW X 0 0 S 161 [(0, va_rf y0), (1, .int y1), (2, .int y2), (3, .int y3), (4, .int y4), (6, .int y6), (7, .int y7)] [.int z0] := by
  have hn5 : 5 < xn X := by rw [hn]; decide
  have hn10 : 10 < xn X := by rw [hn]; decide
  unfold f_L_tour_J161 at h
  refine g_istore C (i := 5) (lv' := [(5, .int z0), (0, va_rf y0), (1, .int y1), (2, .int y2), (3, .int y3), (4, .int y4), (6, .int y6), (7, .int y7)]) dL_tour_161 hn5 rfl ?_
  refine g_iconst C (v := 0) dL_tour_163 (by decide) ?_
  refine g_istore C (i := 10) (lv' := [(10, .int 0), (5, .int z0), (0, va_rf y0), (1, .int y1), (2, .int y2), (3, .int y3), (4, .int y4), (6, .int y6), (7, .int y7)]) dL_tour_164 hn10 rfl ?_
  refine g_sub (lv' := [(0, va_rf y0), (1, .int y1), (2, .int y2), (3, .int y3), (4, .int y4), (5, .int z0), (6, .int y6), (7, .int y7), (10, .int 0)]) [2, 3, 4, 5, 6, 1, 7, 8, 0] rfl ?_
  exact w_L_tour_L166 C hn hQ HK 1000 S y0 y1 y2 y3 y4 z0 y6 y7 (0 : Int32) h

set_option maxHeartbeats 4000000 in
set_option maxRecDepth 100000 in
theorem w_L_tour_J160 {X : Cx} (C : CxOK X cL_tour RL rm_L_tour) (hn : xn X = 12) {S0 : Hp} {o : Int32 × Hp} (hQ : QI X (some .boolean) S0 0 0 o) {kout : Hp → Option Nat → Int32 → Int32 → Int32 → Int32 → Int32 → Int32 → Option (Int32 × Hp)} (HK : ∀ (S : Hp) (y0 : Option Nat) (y1 : Int32) (y2 : Int32) (y3 : Int32) (y4 : Int32) (y5 : Int32) (y6 : Int32), kout S y0 y1 y2 y3 y4 y5 y6 = some o → GW X 0 0 S 24 [(0, va_rf y0), (1, .int y1), (2, .int y2), (3, .int y3), (4, .int y4), (5, .int y5), (6, .int y6)] [])  (S : Hp) (y0 : Option Nat) (y1 : Int32) (y2 : Int32) (y3 : Int32) (y4 : Int32) (y6 : Int32) (y7 : Int32) (h : f_L_tour_J160 kout S y0 y1 y2 y3 y4 y6 y7 = some o) : GW X 0 0 S 160 [(0, va_rf y0), (1, .int y1), (2, .int y2), (3, .int y3), (4, .int y4), (6, .int y6), (7, .int y7)] [] := by
  unfold f_L_tour_J160 at h
  refine g_iconst C (v := 0) dL_tour_160 (by decide) ?_
  refine g_sub (lv' := [(0, va_rf y0), (1, .int y1), (2, .int y2), (3, .int y3), (4, .int y4), (6, .int y6), (7, .int y7)]) [0, 1, 2, 3, 4, 5, 6] rfl ?_
  exact w_L_tour_J161 C hn hQ HK S y0 y1 y2 y3 y4 y6 y7 (0 : Int32) h

set_option maxHeartbeats 4000000 in
set_option maxRecDepth 100000 in
theorem w_L_tour_J133 {X : Cx} (C : CxOK X cL_tour RL rm_L_tour) (hn : xn X = 12) {S0 : Hp} {o : Int32 × Hp} (hQ : QI X (some .boolean) S0 0 0 o) {kout : Hp → Option Nat → Int32 → Int32 → Int32 → Int32 → Int32 → Int32 → Option (Int32 × Hp)} (HK : ∀ (S : Hp) (y0 : Option Nat) (y1 : Int32) (y2 : Int32) (y3 : Int32) (y4 : Int32) (y5 : Int32) (y6 : Int32), kout S y0 y1 y2 y3 y4 y5 y6 = some o → GW X 0 0 S 24 [(0, va_rf y0), (1, .int y1), (2, .int y2), (3, .int y3), (4, .int y4), (5, .int y5), (6, .int y6)] [])  (S : Hp) (y0 : Option Nat) (y1 : Int32) (y2 : Int32) (y3 : Int32) (y5 : Int32) (y6 : Int32) (y7 : Int32) (z0 : Int32) (h : f_L_tour_J133 kout S y0 y1 y2 y3 y5 y6 y7 z0 = some o) : GW X 0 0 S 133 [(0, va_rf y0), (1, .int y1), (2, .int y2), (3, .int y3), (5, .int y5), (6, .int y6), (7, .int y7)] [.int z0] := by
  have hn4 : 4 < xn X := by rw [hn]; decide
  unfold f_L_tour_J133 at h
  refine g_istore C (i := 4) (lv' := [(4, .int z0), (0, va_rf y0), (1, .int y1), (2, .int y2), (3, .int y3), (5, .int y5), (6, .int y6), (7, .int y7)]) dL_tour_133 hn4 rfl ?_
  refine g_iload C (q := 5) dL_tour_135 rfl ?_
  refine g_if_eq C (tgt := 160) dL_tour_137 (by decide) h (fun h => ?_) (fun h => ?_)
  · refine g_sub (lv' := [(0, va_rf y0), (1, .int y1), (2, .int y2), (3, .int y3), (4, .int z0), (6, .int y6), (7, .int y7)]) [1, 2, 3, 4, 0, 6, 7] rfl ?_
    exact w_L_tour_J160 C hn hQ HK S y0 y1 y2 y3 z0 y6 y7 h
  · refine g_aload_n C (q := 1) dL_tour_140 rfl rfl ?_
    refine g_iload C (q := 7) dL_tour_141 rfl ?_
    refine g_iconst C (v := 1) dL_tour_143 (by decide) ?_
    refine g_callVI C (ci := 5) (As := [.int y7, .int 1]) (np := 2) (st := []) (r := y0) rfl (by decide) (fun b1 q hq => c_X5_guide S b1 y7 (1 : Int32) q hq) gv_RL_X5_guide rfl rfl dsX5_guide rfl ⟨Nat.le_of_ble_eq_true rfl, Nat.le_of_ble_eq_true rfl⟩ rfl (cat_sum (Nat.le_of_ble_eq_true rfl)) ⟨Nat.zero_le _, Nat.zero_le _⟩ dL_tour_144 h (fun v1 S1 h => ?_)
    refine g_aload_n C (q := 1) dL_tour_147 rfl rfl ?_
    refine g_iload_n C (q := 2) dL_tour_148 rfl rfl ?_
    refine g_iconst C (v := 0) dL_tour_149 (by decide) ?_
    refine g_callVI C (ci := 5) (As := [.int y1, .int 0]) (np := 2) (st := [.int v1]) (r := y0) rfl (by decide) (fun b2 q hq => c_X5_tour S1 b2 y1 (0 : Int32) q hq) gv_RL_X5_tour rfl rfl dsX5_tour rfl ⟨Nat.le_of_ble_eq_true rfl, Nat.le_of_ble_eq_true rfl⟩ rfl (cat_sum (Nat.le_of_ble_eq_true rfl)) ⟨Nat.zero_le _, Nat.zero_le _⟩ dL_tour_150 h (fun v2 S2 h => ?_)
    refine g_icmp_lt C (tgt := 160) dL_tour_153 (by decide) h (fun h => ?_) (fun h => ?_)
    · refine g_sub (lv' := [(0, va_rf y0), (1, .int y1), (2, .int y2), (3, .int y3), (4, .int z0), (6, .int y6), (7, .int y7)]) [1, 2, 3, 4, 0, 6, 7] rfl ?_
      exact w_L_tour_J160 C hn hQ HK S2 y0 y1 y2 y3 z0 y6 y7 h
    · refine g_iconst C (v := 1) dL_tour_156 (by decide) ?_
      refine g_goto C (tgt := 161) dL_tour_157 (by decide) ?_
      refine g_sub (lv' := [(0, va_rf y0), (1, .int y1), (2, .int y2), (3, .int y3), (4, .int z0), (6, .int y6), (7, .int y7)]) [1, 2, 3, 4, 0, 6, 7] rfl ?_
      exact w_L_tour_J161 C hn hQ HK S2 y0 y1 y2 y3 z0 y6 y7 (1 : Int32) h

set_option maxHeartbeats 4000000 in
set_option maxRecDepth 100000 in
theorem w_L_tour_J84 {X : Cx} (C : CxOK X cL_tour RL rm_L_tour) (hn : xn X = 12) {S0 : Hp} {o : Int32 × Hp} (hQ : QI X (some .boolean) S0 0 0 o) {kout : Hp → Option Nat → Int32 → Int32 → Int32 → Int32 → Int32 → Int32 → Option (Int32 × Hp)} (HK : ∀ (S : Hp) (y0 : Option Nat) (y1 : Int32) (y2 : Int32) (y3 : Int32) (y4 : Int32) (y5 : Int32) (y6 : Int32), kout S y0 y1 y2 y3 y4 y5 y6 = some o → GW X 0 0 S 24 [(0, va_rf y0), (1, .int y1), (2, .int y2), (3, .int y3), (4, .int y4), (5, .int y5), (6, .int y6)] [])  (S : Hp) (y0 : Option Nat) (y1 : Int32) (y2 : Int32) (y3 : Int32) (y4 : Int32) (y5 : Int32) (y6 : Int32) (y7 : Int32) (y8 : Int32) (z0 : Int32) (h : f_L_tour_J84 kout S y0 y1 y2 y3 y4 y5 y6 y7 y8 z0 = some o) : GW X 0 0 S 84 [(0, va_rf y0), (1, .int y1), (2, .int y2), (3, .int y3), (4, .int y4), (5, .int y5), (6, .int y6), (7, .int y7), (8, .int y8)] [.int z0] := by
  have hn3 : 3 < xn X := by rw [hn]; decide
  have hn9 : 9 < xn X := by rw [hn]; decide
  unfold f_L_tour_J84 at h
  refine g_istore C (i := 9) (lv' := [(9, .int z0), (0, va_rf y0), (1, .int y1), (2, .int y2), (3, .int y3), (4, .int y4), (5, .int y5), (6, .int y6), (7, .int y7), (8, .int y8)]) dL_tour_84 hn9 rfl ?_
  refine g_aload_n C (q := 1) dL_tour_86 rfl rfl ?_
  refine g_iload_n C (q := 2) dL_tour_87 rfl rfl ?_
  refine g_iload C (q := 7) dL_tour_88 rfl ?_
  refine g_iconst C (v := 1) dL_tour_90 (by decide) ?_
  refine g_callVI C (ci := 5) (As := [.int y1, .int y6, .int 1]) (np := 3) (st := []) (r := y0) rfl (by decide) (fun b1 q hq => c_X5_rope S b1 y1 y6 (1 : Int32) q hq) gv_RL_X5_rope rfl rfl dsX5_rope rfl ⟨Nat.le_of_ble_eq_true rfl, Nat.le_of_ble_eq_true rfl⟩ rfl (cat_sum (Nat.le_of_ble_eq_true rfl)) ⟨Nat.zero_le _, Nat.zero_le _⟩ dL_tour_91 h (fun v1 S1 h => ?_)
  refine g_iload C (q := 9) dL_tour_94 rfl ?_
  refine g_icmp_ne C (tgt := 112) dL_tour_96 (by decide) h (fun h => ?_) (fun h => ?_)
  · refine g_aload_n C (q := 1) dL_tour_99 rfl rfl ?_
    refine g_iload_n C (q := 2) dL_tour_100 rfl rfl ?_
    refine g_iload C (q := 7) dL_tour_101 rfl ?_
    refine g_iconst C (v := 2) dL_tour_103 (by decide) ?_
    refine g_callVI C (ci := 5) (As := [.int y1, .int y6, .int 2]) (np := 3) (st := []) (r := y0) rfl (by decide) (fun b2 q hq => c_X5_rope S1 b2 y1 y6 (2 : Int32) q hq) gv_RL_X5_rope rfl rfl dsX5_rope rfl ⟨Nat.le_of_ble_eq_true rfl, Nat.le_of_ble_eq_true rfl⟩ rfl (cat_sum (Nat.le_of_ble_eq_true rfl)) ⟨Nat.zero_le _, Nat.zero_le _⟩ dL_tour_104 h (fun v2 S2 h => ?_)
    refine g_iload C (q := 0) dL_tour_107 rfl ?_
    refine g_icmp_eq C (tgt := 114) dL_tour_109 (by decide) h (fun h => ?_) (fun h => ?_)
    · refine g_iload_n C (q := 4) dL_tour_114 rfl rfl ?_
      refine g_iload C (q := 0) dL_tour_115 rfl ?_
      refine g_isub C dL_tour_117 ?_
      refine g_nmI h (fun v3 h => ?_)
      refine g_istore_n C (i := 3) (lv' := [(3, .int v3), (9, .int z0), (0, va_rf y0), (1, .int y1), (2, .int y2), (4, .int y4), (5, .int y5), (6, .int y6), (7, .int y7), (8, .int y8)]) dL_tour_118 rfl hn3 rfl ?_
      refine g_iload C (q := 1) dL_tour_119 rfl ?_
      refine g_iload C (q := 5) dL_tour_121 rfl ?_
      refine g_icmp_le C (tgt := 131) dL_tour_123 (by decide) h (fun h => ?_) (fun h => ?_)
      · refine g_iload C (q := 5) dL_tour_131 rfl ?_
        refine g_sub (lv' := [(0, va_rf y0), (1, .int y1), (2, .int y2), (3, .int v3), (5, .int y5), (6, .int y6), (7, .int y7)]) [2, 3, 4, 0, 6, 7, 8] rfl ?_
        exact w_L_tour_J133 C hn hQ HK S2 y0 y1 y2 v3 y5 y6 y7 y4 h
      · refine g_iload C (q := 1) dL_tour_126 rfl ?_
        refine g_goto C (tgt := 133) dL_tour_128 (by decide) ?_
        refine g_sub (lv' := [(0, va_rf y0), (1, .int y1), (2, .int y2), (3, .int v3), (5, .int y5), (6, .int y6), (7, .int y7)]) [2, 3, 4, 0, 6, 7, 8] rfl ?_
        exact w_L_tour_J133 C hn hQ HK S2 y0 y1 y2 v3 y5 y6 y7 z0 h
    · refine g_iconst C (v := 0) dL_tour_112 (by decide) ?_
      exact g_zret C hQ (by decide) dL_tour_113 h
  · refine g_iconst C (v := 0) dL_tour_112 (by decide) ?_
    exact g_zret C hQ (by decide) dL_tour_113 h

set_option maxHeartbeats 4000000 in
set_option maxRecDepth 100000 in
theorem w_L_tour_J70 {X : Cx} (C : CxOK X cL_tour RL rm_L_tour) (hn : xn X = 12) {S0 : Hp} {o : Int32 × Hp} (hQ : QI X (some .boolean) S0 0 0 o) {kout : Hp → Option Nat → Int32 → Int32 → Int32 → Int32 → Int32 → Int32 → Option (Int32 × Hp)} (HK : ∀ (S : Hp) (y0 : Option Nat) (y1 : Int32) (y2 : Int32) (y3 : Int32) (y4 : Int32) (y5 : Int32) (y6 : Int32), kout S y0 y1 y2 y3 y4 y5 y6 = some o → GW X 0 0 S 24 [(0, va_rf y0), (1, .int y1), (2, .int y2), (3, .int y3), (4, .int y4), (5, .int y5), (6, .int y6)] [])  (S : Hp) (y0 : Option Nat) (y1 : Int32) (y2 : Int32) (y3 : Int32) (y4 : Int32) (y5 : Int32) (y6 : Int32) (y7 : Int32) (z0 : Int32) (h : f_L_tour_J70 kout S y0 y1 y2 y3 y4 y5 y6 y7 z0 = some o) : GW X 0 0 S 70 [(0, va_rf y0), (1, .int y1), (2, .int y2), (3, .int y3), (4, .int y4), (5, .int y5), (6, .int y6), (7, .int y7)] [.int z0] := by
  have hn8 : 8 < xn X := by rw [hn]; decide
  unfold f_L_tour_J70 at h
  refine g_istore C (i := 8) (lv' := [(8, .int z0), (0, va_rf y0), (1, .int y1), (2, .int y2), (3, .int y3), (4, .int y4), (5, .int y5), (6, .int y6), (7, .int y7)]) dL_tour_70 hn8 rfl ?_
  refine g_iload C (q := 0) dL_tour_72 rfl ?_
  refine g_iload_n C (q := 4) dL_tour_74 rfl rfl ?_
  refine g_icmp_ge C (tgt := 83) dL_tour_75 (by decide) h (fun h => ?_) (fun h => ?_)
  · refine g_iload_n C (q := 4) dL_tour_83 rfl rfl ?_
    refine g_sub (lv' := [(0, va_rf y0), (1, .int y1), (2, .int y2), (3, .int y3), (4, .int y4), (5, .int y5), (6, .int y6), (7, .int y7), (8, .int z0)]) [1, 2, 3, 4, 5, 6, 7, 8, 0] rfl ?_
    exact w_L_tour_J84 C hn hQ HK S y0 y1 y2 y3 y4 y5 y6 y7 z0 y3 h
  · refine g_iload C (q := 0) dL_tour_78 rfl ?_
    refine g_goto C (tgt := 84) dL_tour_80 (by decide) ?_
    refine g_sub (lv' := [(0, va_rf y0), (1, .int y1), (2, .int y2), (3, .int y3), (4, .int y4), (5, .int y5), (6, .int y6), (7, .int y7), (8, .int z0)]) [1, 2, 3, 4, 5, 6, 7, 8, 0] rfl ?_
    exact w_L_tour_J84 C hn hQ HK S y0 y1 y2 y3 y4 y5 y6 y7 z0 z0 h

set_option maxHeartbeats 4000000 in
set_option maxRecDepth 100000 in
theorem w_L_tour_L24 {X : Cx} (C : CxOK X cL_tour RL rm_L_tour) (hn : xn X = 12) {S0 : Hp} {o : Int32 × Hp} (hQ : QI X (some .boolean) S0 0 0 o) : ∀ (fuel : Nat) (S : Hp) (y0 : Option Nat) (y1 : Int32) (y2 : Int32) (y3 : Int32) (y4 : Int32) (y5 : Int32) (y6 : Int32), f_L_tour_L24 fuel S y0 y1 y2 y3 y4 y5 y6 = some o → GW X 0 0 S 24 [(0, va_rf y0), (1, .int y1), (2, .int y2), (3, .int y3), (4, .int y4), (5, .int y5), (6, .int y6)] [] := by
  have hn7 : 7 < xn X := by rw [hn]; decide
  have hn8 : 8 < xn X := by rw [hn]; decide
  have hn9 : 9 < xn X := by rw [hn]; decide
  intro fuel
  induction fuel with
  | zero => intro S y0 y1 y2 y3 y4 y5 y6 h; cases (show none = some o from h)
  | succ fuel ih =>
    intro S y0 y1 y2 y3 y4 y5 y6 h
    have h : f_L_tour_L24_b (f_L_tour_L24 fuel) S y0 y1 y2 y3 y4 y5 y6 = some o := h
    unfold f_L_tour_L24_b at h
    refine g_iload C (q := 6) dL_tour_24 rfl ?_
    refine g_aload_n C (q := 0) dL_tour_26 rfl rfl ?_
    refine g_iload_n C (q := 1) dL_tour_27 rfl rfl ?_
    refine g_iconst C (v := 4) dL_tour_28 (by decide) ?_
    refine g_callVI C (ci := 5) (As := [.int y1, .int 4]) (np := 2) (st := [.int y6]) (r := y0) rfl (by decide) (fun b1 q hq => c_X5_tour S b1 y1 (4 : Int32) q hq) gv_RL_X5_tour rfl rfl dsX5_tour rfl ⟨Nat.le_of_ble_eq_true rfl, Nat.le_of_ble_eq_true rfl⟩ rfl (cat_sum (Nat.le_of_ble_eq_true rfl)) ⟨Nat.zero_le _, Nat.zero_le _⟩ dL_tour_29 h (fun v1 S1 h => ?_)
    refine g_icmp_ge C (tgt := 268) dL_tour_32 (by decide) h (fun h => ?_) (fun h => ?_)
    · refine g_ldc2d C q591 dL_tour_268 ?_
      refine g_ldc2d C q592 dL_tour_271 ?_
      refine g_iload C (q := 4) dL_tour_274 rfl ?_
      refine g_iconst C (v := 1) dL_tour_276 (by decide) ?_
      refine g_iadd C dL_tour_277 ?_
      refine g_i2d C dL_tour_278 ?_
      refine g_dmul C dL_tour_279 h (fun h => ?_)
      refine g_dadd C dL_tour_280 h (fun h => ?_)
      refine g_nmD h (fun e1 h => ?_)
      refine g_dstore C (i := 6) (lv' := [(6, .double e1), (0, va_rf y0), (1, .int y1), (2, .int y2), (3, .int y3), (4, .int y4), (5, .int y5)]) dL_tour_281 hn7 rfl ?_
      refine g_iconst C (v := 1) dL_tour_283 (by decide) ?_
      refine g_istore C (i := 8) (lv' := [(8, .int 1), (6, .double e1), (0, va_rf y0), (1, .int y1), (2, .int y2), (3, .int y3), (4, .int y4), (5, .int y5)]) dL_tour_284 hn8 rfl ?_
      refine g_iconst C (v := 0) dL_tour_286 (by decide) ?_
      refine g_istore C (i := 9) (lv' := [(9, .int 0), (8, .int 1), (6, .double e1), (0, va_rf y0), (1, .int y1), (2, .int y2), (3, .int y3), (4, .int y4), (5, .int y5)]) dL_tour_287 hn9 rfl ?_
      refine g_sub (lv' := [(0, va_rf y0), (1, .int y1), (3, .int y3), (5, .int y5), (6, .double e1), (8, .int 1), (9, .int 0)]) [3, 4, 6, 8, 2, 1, 0] rfl ?_
      exact w_L_tour_L289 C hn hQ 1000 S1 y0 y1 y3 y5 e1 (1 : Int32) (0 : Int32) h
    · refine g_aload_n C (q := 0) dL_tour_35 rfl rfl ?_
      refine g_iload_n C (q := 1) dL_tour_36 rfl rfl ?_
      refine g_iload C (q := 6) dL_tour_37 rfl ?_
      refine g_iconst C (v := 0) dL_tour_39 (by decide) ?_
      refine g_callVI C (ci := 5) (As := [.int y1, .int y6, .int 0]) (np := 3) (st := []) (r := y0) rfl (by decide) (fun b2 q hq => c_X5_rope S1 b2 y1 y6 (0 : Int32) q hq) gv_RL_X5_rope rfl rfl dsX5_rope rfl ⟨Nat.le_of_ble_eq_true rfl, Nat.le_of_ble_eq_true rfl⟩ rfl (cat_sum (Nat.le_of_ble_eq_true rfl)) ⟨Nat.zero_le _, Nat.zero_le _⟩ dL_tour_40 h (fun v2 S2 h => ?_)
      refine g_istore C (i := 7) (lv' := [(7, .int v2), (0, va_rf y0), (1, .int y1), (2, .int y2), (3, .int y3), (4, .int y4), (5, .int y5), (6, .int y6)]) dL_tour_43 hn7 rfl ?_
      refine g_iload_n C (q := 3) dL_tour_45 rfl rfl ?_
      refine g_aload_n C (q := 1) dL_tour_46 rfl rfl ?_
      refine g_iload C (q := 0) dL_tour_47 rfl ?_
      refine g_iconst C (v := 0) dL_tour_49 (by decide) ?_
      refine g_callVI C (ci := 5) (As := [.int v2, .int 0]) (np := 2) (st := [.int y2]) (r := y0) rfl (by decide) (fun b3 q hq => c_X5_guide S2 b3 v2 (0 : Int32) q hq) gv_RL_X5_guide rfl rfl dsX5_guide rfl ⟨Nat.le_of_ble_eq_true rfl, Nat.le_of_ble_eq_true rfl⟩ rfl (cat_sum (Nat.le_of_ble_eq_true rfl)) ⟨Nat.zero_le _, Nat.zero_le _⟩ dL_tour_50 h (fun v3 S3 h => ?_)
      refine g_iadd C dL_tour_53 ?_
      refine g_iconst C (v := 2) dL_tour_54 (by decide) ?_
      refine g_isub C dL_tour_55 ?_
      refine g_nmI h (fun v4 h => ?_)
      refine g_istore C (i := 8) (lv' := [(8, .int v4), (7, .int v2), (0, va_rf y0), (1, .int y1), (2, .int y2), (3, .int y3), (4, .int y4), (5, .int y5), (6, .int y6)]) dL_tour_56 hn8 rfl ?_
      refine g_iload C (q := 0) dL_tour_58 rfl ?_
      refine g_iconst C (v := 1) dL_tour_60 (by decide) ?_
      refine g_icmp_ge C (tgt := 68) dL_tour_61 (by decide) h (fun h => ?_) (fun h => ?_)
      · refine g_iload C (q := 0) dL_tour_68 rfl ?_
        refine g_sub (lv' := [(0, va_rf y0), (1, .int y1), (2, .int y2), (3, .int y3), (4, .int y4), (5, .int y5), (6, .int y6), (7, .int v2)]) [2, 3, 4, 5, 6, 7, 8, 1] rfl ?_
        exact w_L_tour_J70 C hn hQ (fun S y0 y1 y2 y3 y4 y5 y6 h => ih S y0 y1 y2 y3 y4 y5 y6 h) S3 y0 y1 y2 y3 y4 y5 y6 v2 v4 h
      · refine g_iconst C (v := 1) dL_tour_64 (by decide) ?_
        refine g_goto C (tgt := 70) dL_tour_65 (by decide) ?_
        refine g_sub (lv' := [(0, va_rf y0), (1, .int y1), (2, .int y2), (3, .int y3), (4, .int y4), (5, .int y5), (6, .int y6), (7, .int v2)]) [2, 3, 4, 5, 6, 7, 8, 1] rfl ?_
        exact w_L_tour_J70 C hn hQ (fun S y0 y1 y2 y3 y4 y5 y6 h => ih S y0 y1 y2 y3 y4 y5 y6 h) S3 y0 y1 y2 y3 y4 y5 y6 v2 (1 : Int32) h
set_option maxHeartbeats 4000000 in
set_option maxRecDepth 100000 in
theorem c_L_tour (S : Hp) (x0 : Option Nat) (x1 : Int32) (o : Int32 × Hp) (h : f_L_tour S x0 x1 = some o) : CtI yL_tour cL_tour 12 (some .boolean) rm_L_tour 0 0 [va_rf x0, .int x1] S o := by
  refine ct_I (own := RL) (by decide) rfl (by simp [lg_sl, va_rf_cat, catI, catJ, catD]) (fun X C hn hQ => ?_)
  have hn2 : 2 < xn X := by rw [hn]; decide
  have hn3 : 3 < xn X := by rw [hn]; decide
  have hn4 : 4 < xn X := by rw [hn]; decide
  have hn5 : 5 < xn X := by rw [hn]; decide
  have hn6 : 6 < xn X := by rw [hn]; decide
  unfold f_L_tour at h
  rw [show lv_args 0 [va_rf x0, .int x1] = [(0, va_rf x0), (1, .int x1)] by simp [lv_args, va_rf_cat, catI, catJ, catD]]
  refine g_aload_n C (q := 0) dL_tour_0 rfl rfl ?_
  refine g_iload_n C (q := 1) dL_tour_1 rfl rfl ?_
  refine g_bipush C (v := 9) dL_tour_2 (by decide) ?_
  refine g_callVI C (ci := 5) (As := [.int x1, .int 9]) (np := 2) (st := []) (r := x0) rfl (by decide) (fun b1 q hq => c_X5_tour S b1 x1 (9 : Int32) q hq) gv_RL_X5_tour rfl rfl dsX5_tour rfl ⟨Nat.le_of_ble_eq_true rfl, Nat.le_of_ble_eq_true rfl⟩ rfl (cat_sum (Nat.le_of_ble_eq_true rfl)) ⟨Nat.zero_le _, Nat.zero_le _⟩ dL_tour_4 h (fun v1 S1 h => ?_)
  refine g_istore_n C (i := 2) (lv' := [(2, .int v1), (0, va_rf x0), (1, .int x1)]) dL_tour_7 rfl hn2 rfl ?_
  refine g_aload_n C (q := 1) dL_tour_8 rfl rfl ?_
  refine g_iload_n C (q := 2) dL_tour_9 rfl rfl ?_
  refine g_iconst C (v := 3) dL_tour_10 (by decide) ?_
  refine g_callVI C (ci := 5) (As := [.int x1, .int 3]) (np := 2) (st := []) (r := x0) rfl (by decide) (fun b2 q hq => c_X5_tour S1 b2 x1 (3 : Int32) q hq) gv_RL_X5_tour rfl rfl dsX5_tour rfl ⟨Nat.le_of_ble_eq_true rfl, Nat.le_of_ble_eq_true rfl⟩ rfl (cat_sum (Nat.le_of_ble_eq_true rfl)) ⟨Nat.zero_le _, Nat.zero_le _⟩ dL_tour_11 h (fun v2 S2 h => ?_)
  refine g_istore_n C (i := 3) (lv' := [(3, .int v2), (2, .int v1), (0, va_rf x0), (1, .int x1)]) dL_tour_14 rfl hn3 rfl ?_
  refine g_iconst C (v := 0) dL_tour_15 (by decide) ?_
  refine g_istore C (i := 4) (lv' := [(4, .int 0), (3, .int v2), (2, .int v1), (0, va_rf x0), (1, .int x1)]) dL_tour_16 hn4 rfl ?_
  refine g_iconst C (v := 1) dL_tour_18 (by decide) ?_
  refine g_istore C (i := 5) (lv' := [(5, .int 1), (4, .int 0), (3, .int v2), (2, .int v1), (0, va_rf x0), (1, .int x1)]) dL_tour_19 hn5 rfl ?_
  refine g_iconst C (v := 0) dL_tour_21 (by decide) ?_
  refine g_istore C (i := 6) (lv' := [(6, .int 0), (5, .int 1), (4, .int 0), (3, .int v2), (2, .int v1), (0, va_rf x0), (1, .int x1)]) dL_tour_22 hn6 rfl ?_
  refine g_sub (lv' := [(0, va_rf x0), (1, .int x1), (2, .int v1), (3, .int v2), (4, .int 0), (5, .int 1), (6, .int 0)]) [5, 6, 4, 3, 2, 1, 0] rfl ?_
  exact w_L_tour_L24 C hn hQ 1000 S2 x0 x1 v1 v2 (0 : Int32) (1 : Int32) (0 : Int32) h
