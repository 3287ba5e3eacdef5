-- X11_readUnit
theorem eX11_readUnit_0 : DD cX11_readUnit 0 (.aload_n 0) 1 1 := ⟨by decide +kernel, rfl⟩
theorem eX11_readUnit_1 : DD cX11_readUnit 1 (.invokevirtual 91) 3 4 := ⟨by decide +kernel, rfl⟩
theorem eX11_readUnit_4 : DD cX11_readUnit 4 (.istore_n 3) 1 5 := ⟨by decide +kernel, rfl⟩
theorem eX11_readUnit_5 : DD cX11_readUnit 5 (.iload_n 3) 1 6 := ⟨by decide +kernel, rfl⟩
theorem eX11_readUnit_6 : DD cX11_readUnit 6 (.bipush 97) 2 8 := ⟨by decide +kernel, rfl⟩
theorem eX11_readUnit_8 : DB cX11_readUnit 8 (.if_icmp .eq 9) (9) 11 17 := ⟨by decide +kernel, rfl, by decide⟩
theorem eX11_readUnit_11 : DD cX11_readUnit 11 (.iload_n 3) 1 12 := ⟨by decide +kernel, rfl⟩
theorem eX11_readUnit_12 : DD cX11_readUnit 12 (.bipush 98) 2 14 := ⟨by decide +kernel, rfl⟩
theorem eX11_readUnit_14 : DB cX11_readUnit 14 (.if_icmp .ne 14) (14) 17 28 := ⟨by decide +kernel, rfl, by decide⟩
theorem eX11_readUnit_17 : DD cX11_readUnit 17 (.aload_n 0) 1 18 := ⟨by decide +kernel, rfl⟩
theorem eX11_readUnit_18 : DD cX11_readUnit 18 (.getfield 31) 3 21 := ⟨by decide +kernel, rfl⟩
theorem eX11_readUnit_21 : DD cX11_readUnit 21 (.iload_n 1) 1 22 := ⟨by decide +kernel, rfl⟩
theorem eX11_readUnit_22 : DD cX11_readUnit 22 (.iaload) 1 23 := ⟨by decide +kernel, rfl⟩
theorem eX11_readUnit_23 : DD cX11_readUnit 23 (.bipush 6) 2 25 := ⟨by decide +kernel, rfl⟩
theorem eX11_readUnit_25 : DB cX11_readUnit 25 (.if_icmp .ne 8) (8) 28 33 := ⟨by decide +kernel, rfl, by decide⟩
theorem eX11_readUnit_28 : DD cX11_readUnit 28 (.aload_n 0) 1 29 := ⟨by decide +kernel, rfl⟩
theorem eX11_readUnit_29 : DD cX11_readUnit 29 (.invokevirtual 98) 3 32 := ⟨by decide +kernel, rfl⟩
theorem eX11_readUnit_32 : DD cX11_readUnit 32 (.return_) 1 33 := ⟨by decide +kernel, rfl⟩
theorem eX11_readUnit_33 : DD cX11_readUnit 33 (.iconst 4) 1 34 := ⟨by decide +kernel, rfl⟩
theorem eX11_readUnit_34 : DD cX11_readUnit 34 (.bipush 6) 2 36 := ⟨by decide +kernel, rfl⟩
theorem eX11_readUnit_36 : DD cX11_readUnit 36 (.iload_n 1) 1 37 := ⟨by decide +kernel, rfl⟩
theorem eX11_readUnit_37 : DD cX11_readUnit 37 (.imul) 1 38 := ⟨by decide +kernel, rfl⟩
theorem eX11_readUnit_38 : DD cX11_readUnit 38 (.aload_n 0) 1 39 := ⟨by decide +kernel, rfl⟩
theorem eX11_readUnit_39 : DD cX11_readUnit 39 (.getfield 31) 3 42 := ⟨by decide +kernel, rfl⟩
theorem eX11_readUnit_42 : DD cX11_readUnit 42 (.iload_n 1) 1 43 := ⟨by decide +kernel, rfl⟩
theorem eX11_readUnit_43 : DD cX11_readUnit 43 (.iaload) 1 44 := ⟨by decide +kernel, rfl⟩
theorem eX11_readUnit_44 : DD cX11_readUnit 44 (.iadd) 1 45 := ⟨by decide +kernel, rfl⟩
theorem eX11_readUnit_45 : DD cX11_readUnit 45 (.imul) 1 46 := ⟨by decide +kernel, rfl⟩
theorem eX11_readUnit_46 : DD cX11_readUnit 46 (.istore 4) 2 48 := ⟨by decide +kernel, rfl⟩
theorem eX11_readUnit_48 : DD cX11_readUnit 48 (.aload_n 0) 1 49 := ⟨by decide +kernel, rfl⟩
theorem eX11_readUnit_49 : DD cX11_readUnit 49 (.getfield 28) 3 52 := ⟨by decide +kernel, rfl⟩
theorem eX11_readUnit_52 : DD cX11_readUnit 52 (.iload 4) 2 54 := ⟨by decide +kernel, rfl⟩
theorem eX11_readUnit_54 : DD cX11_readUnit 54 (.iload_n 2) 1 55 := ⟨by decide +kernel, rfl⟩
theorem eX11_readUnit_55 : DD cX11_readUnit 55 (.iastore) 1 56 := ⟨by decide +kernel, rfl⟩
theorem eX11_readUnit_56 : DD cX11_readUnit 56 (.aload_n 0) 1 57 := ⟨by decide +kernel, rfl⟩
theorem eX11_readUnit_57 : DD cX11_readUnit 57 (.getfield 28) 3 60 := ⟨by decide +kernel, rfl⟩
theorem eX11_readUnit_60 : DD cX11_readUnit 60 (.iload 4) 2 62 := ⟨by decide +kernel, rfl⟩
theorem eX11_readUnit_62 : DD cX11_readUnit 62 (.iconst 1) 1 63 := ⟨by decide +kernel, rfl⟩
theorem eX11_readUnit_63 : DD cX11_readUnit 63 (.iadd) 1 64 := ⟨by decide +kernel, rfl⟩
theorem eX11_readUnit_64 : DD cX11_readUnit 64 (.iload_n 3) 1 65 := ⟨by decide +kernel, rfl⟩
theorem eX11_readUnit_65 : DD cX11_readUnit 65 (.bipush 97) 2 67 := ⟨by decide +kernel, rfl⟩
theorem eX11_readUnit_67 : DD cX11_readUnit 67 (.isub) 1 68 := ⟨by decide +kernel, rfl⟩
theorem eX11_readUnit_68 : DD cX11_readUnit 68 (.iastore) 1 69 := ⟨by decide +kernel, rfl⟩
theorem eX11_readUnit_69 : DD cX11_readUnit 69 (.aload_n 0) 1 70 := ⟨by decide +kernel, rfl⟩
theorem eX11_readUnit_70 : DD cX11_readUnit 70 (.getfield 28) 3 73 := ⟨by decide +kernel, rfl⟩
theorem eX11_readUnit_73 : DD cX11_readUnit 73 (.iload 4) 2 75 := ⟨by decide +kernel, rfl⟩
theorem eX11_readUnit_75 : DD cX11_readUnit 75 (.iconst 3) 1 76 := ⟨by decide +kernel, rfl⟩
theorem eX11_readUnit_76 : DD cX11_readUnit 76 (.iadd) 1 77 := ⟨by decide +kernel, rfl⟩
theorem eX11_readUnit_77 : DD cX11_readUnit 77 (.iconst (-1)) 1 78 := ⟨by decide +kernel, rfl⟩
theorem eX11_readUnit_78 : DD cX11_readUnit 78 (.iastore) 1 79 := ⟨by decide +kernel, rfl⟩
theorem eX11_readUnit_79 : DD cX11_readUnit 79 (.aload_n 0) 1 80 := ⟨by decide +kernel, rfl⟩
theorem eX11_readUnit_80 : DD cX11_readUnit 80 (.dup) 1 81 := ⟨by decide +kernel, rfl⟩
theorem eX11_readUnit_81 : DD cX11_readUnit 81 (.getfield 81) 3 84 := ⟨by decide +kernel, rfl⟩
theorem eX11_readUnit_84 : DD cX11_readUnit 84 (.iconst 1) 1 85 := ⟨by decide +kernel, rfl⟩
theorem eX11_readUnit_85 : DD cX11_readUnit 85 (.iadd) 1 86 := ⟨by decide +kernel, rfl⟩
theorem eX11_readUnit_86 : DD cX11_readUnit 86 (.putfield 81) 3 89 := ⟨by decide +kernel, rfl⟩
theorem eX11_readUnit_89 : DD cX11_readUnit 89 (.aload_n 0) 1 90 := ⟨by decide +kernel, rfl⟩
theorem eX11_readUnit_90 : DD cX11_readUnit 90 (.invokevirtual 91) 3 93 := ⟨by decide +kernel, rfl⟩
theorem eX11_readUnit_93 : DD cX11_readUnit 93 (.istore 5) 2 95 := ⟨by decide +kernel, rfl⟩
theorem eX11_readUnit_95 : DD cX11_readUnit 95 (.aload_n 0) 1 96 := ⟨by decide +kernel, rfl⟩
theorem eX11_readUnit_96 : DD cX11_readUnit 96 (.getfield 28) 3 99 := ⟨by decide +kernel, rfl⟩
theorem eX11_readUnit_99 : DD cX11_readUnit 99 (.iload 4) 2 101 := ⟨by decide +kernel, rfl⟩
theorem eX11_readUnit_101 : DD cX11_readUnit 101 (.iconst 2) 1 102 := ⟨by decide +kernel, rfl⟩
theorem eX11_readUnit_102 : DD cX11_readUnit 102 (.iadd) 1 103 := ⟨by decide +kernel, rfl⟩
theorem eX11_readUnit_103 : DD cX11_readUnit 103 (.iload 5) 2 105 := ⟨by decide +kernel, rfl⟩
theorem eX11_readUnit_105 : DD cX11_readUnit 105 (.bipush 61) 2 107 := ⟨by decide +kernel, rfl⟩
theorem eX11_readUnit_107 : DB cX11_readUnit 107 (.if_icmp .ne 7) (7) 110 114 := ⟨by decide +kernel, rfl, by decide⟩
theorem eX11_readUnit_110 : DD cX11_readUnit 110 (.iconst 0) 1 111 := ⟨by decide +kernel, rfl⟩
theorem eX11_readUnit_111 : DB cX11_readUnit 111 (.goto 37) (37) 114 148 := ⟨by decide +kernel, rfl, by decide⟩
theorem eX11_readUnit_114 : DD cX11_readUnit 114 (.iload 5) 2 116 := ⟨by decide +kernel, rfl⟩
theorem eX11_readUnit_116 : DD cX11_readUnit 116 (.bipush 60) 2 118 := ⟨by decide +kernel, rfl⟩
theorem eX11_readUnit_118 : DB cX11_readUnit 118 (.if_icmp .ne 7) (7) 121 125 := ⟨by decide +kernel, rfl, by decide⟩
theorem eX11_readUnit_121 : DD cX11_readUnit 121 (.iconst 1) 1 122 := ⟨by decide +kernel, rfl⟩
theorem eX11_readUnit_122 : DB cX11_readUnit 122 (.goto 26) (26) 125 148 := ⟨by decide +kernel, rfl, by decide⟩
theorem eX11_readUnit_125 : DD cX11_readUnit 125 (.iload 5) 2 127 := ⟨by decide +kernel, rfl⟩
theorem eX11_readUnit_127 : DD cX11_readUnit 127 (.bipush 62) 2 129 := ⟨by decide +kernel, rfl⟩
theorem eX11_readUnit_129 : DB cX11_readUnit 129 (.if_icmp .ne 7) (7) 132 136 := ⟨by decide +kernel, rfl, by decide⟩
theorem eX11_readUnit_132 : DD cX11_readUnit 132 (.iconst 2) 1 133 := ⟨by decide +kernel, rfl⟩
theorem eX11_readUnit_133 : DB cX11_readUnit 133 (.goto 15) (15) 136 148 := ⟨by decide +kernel, rfl, by decide⟩
theorem eX11_readUnit_136 : DD cX11_readUnit 136 (.iload 5) 2 138 := ⟨by decide +kernel, rfl⟩
theorem eX11_readUnit_138 : DD cX11_readUnit 138 (.bipush 63) 2 140 := ⟨by decide +kernel, rfl⟩
theorem eX11_readUnit_140 : DB cX11_readUnit 140 (.if_icmp .ne 7) (7) 143 147 := ⟨by decide +kernel, rfl, by decide⟩
theorem eX11_readUnit_143 : DD cX11_readUnit 143 (.iconst 3) 1 144 := ⟨by decide +kernel, rfl⟩
theorem eX11_readUnit_144 : DB cX11_readUnit 144 (.goto 4) (4) 147 148 := ⟨by decide +kernel, rfl, by decide⟩
theorem eX11_readUnit_147 : DD cX11_readUnit 147 (.iconst (-1)) 1 148 := ⟨by decide +kernel, rfl⟩
theorem eX11_readUnit_148 : DD cX11_readUnit 148 (.iastore) 1 149 := ⟨by decide +kernel, rfl⟩
theorem eX11_readUnit_149 : DD cX11_readUnit 149 (.aload_n 0) 1 150 := ⟨by decide +kernel, rfl⟩
theorem eX11_readUnit_150 : DD cX11_readUnit 150 (.getfield 28) 3 153 := ⟨by decide +kernel, rfl⟩
theorem eX11_readUnit_153 : DD cX11_readUnit 153 (.iload 4) 2 155 := ⟨by decide +kernel, rfl⟩
theorem eX11_readUnit_155 : DD cX11_readUnit 155 (.iconst 2) 1 156 := ⟨by decide +kernel, rfl⟩
theorem eX11_readUnit_156 : DD cX11_readUnit 156 (.iadd) 1 157 := ⟨by decide +kernel, rfl⟩
theorem eX11_readUnit_157 : DD cX11_readUnit 157 (.iaload) 1 158 := ⟨by decide +kernel, rfl⟩
theorem eX11_readUnit_158 : DD cX11_readUnit 158 (.iconst (-1)) 1 159 := ⟨by decide +kernel, rfl⟩
theorem eX11_readUnit_159 : DB cX11_readUnit 159 (.if_icmp .ne 8) (8) 162 167 := ⟨by decide +kernel, rfl, by decide⟩
theorem eX11_readUnit_162 : DD cX11_readUnit 162 (.aload_n 0) 1 163 := ⟨by decide +kernel, rfl⟩
theorem eX11_readUnit_163 : DD cX11_readUnit 163 (.invokevirtual 98) 3 166 := ⟨by decide +kernel, rfl⟩
theorem eX11_readUnit_166 : DD cX11_readUnit 166 (.return_) 1 167 := ⟨by decide +kernel, rfl⟩
theorem eX11_readUnit_167 : DD cX11_readUnit 167 (.aload_n 0) 1 168 := ⟨by decide +kernel, rfl⟩
theorem eX11_readUnit_168 : DD cX11_readUnit 168 (.dup) 1 169 := ⟨by decide +kernel, rfl⟩
theorem eX11_readUnit_169 : DD cX11_readUnit 169 (.getfield 81) 3 172 := ⟨by decide +kernel, rfl⟩
theorem eX11_readUnit_172 : DD cX11_readUnit 172 (.iconst 1) 1 173 := ⟨by decide +kernel, rfl⟩
theorem eX11_readUnit_173 : DD cX11_readUnit 173 (.iadd) 1 174 := ⟨by decide +kernel, rfl⟩
theorem eX11_readUnit_174 : DD cX11_readUnit 174 (.putfield 81) 3 177 := ⟨by decide +kernel, rfl⟩
theorem eX11_readUnit_177 : DD cX11_readUnit 177 (.iload 5) 2 179 := ⟨by decide +kernel, rfl⟩
theorem eX11_readUnit_179 : DD cX11_readUnit 179 (.bipush 63) 2 181 := ⟨by decide +kernel, rfl⟩
theorem eX11_readUnit_181 : DB cX11_readUnit 181 (.if_icmp .eq 20) (20) 184 201 := ⟨by decide +kernel, rfl, by decide⟩
theorem eX11_readUnit_184 : DD cX11_readUnit 184 (.aload_n 0) 1 185 := ⟨by decide +kernel, rfl⟩
theorem eX11_readUnit_185 : DD cX11_readUnit 185 (.getfield 28) 3 188 := ⟨by decide +kernel, rfl⟩
theorem eX11_readUnit_188 : DD cX11_readUnit 188 (.iload 4) 2 190 := ⟨by decide +kernel, rfl⟩
theorem eX11_readUnit_190 : DD cX11_readUnit 190 (.iconst 3) 1 191 := ⟨by decide +kernel, rfl⟩
theorem eX11_readUnit_191 : DD cX11_readUnit 191 (.iadd) 1 192 := ⟨by decide +kernel, rfl⟩
theorem eX11_readUnit_192 : DD cX11_readUnit 192 (.aload_n 0) 1 193 := ⟨by decide +kernel, rfl⟩
theorem eX11_readUnit_193 : DD cX11_readUnit 193 (.iconst 2) 1 194 := ⟨by decide +kernel, rfl⟩
theorem eX11_readUnit_194 : DD cX11_readUnit 194 (.iconst 0) 1 195 := ⟨by decide +kernel, rfl⟩
theorem eX11_readUnit_195 : DD cX11_readUnit 195 (.bipush 99) 2 197 := ⟨by decide +kernel, rfl⟩
theorem eX11_readUnit_197 : DD cX11_readUnit 197 (.invokevirtual 118) 3 200 := ⟨by decide +kernel, rfl⟩
theorem eX11_readUnit_200 : DD cX11_readUnit 200 (.iastore) 1 201 := ⟨by decide +kernel, rfl⟩
theorem eX11_readUnit_201 : DD cX11_readUnit 201 (.aload_n 0) 1 202 := ⟨by decide +kernel, rfl⟩
theorem eX11_readUnit_202 : DD cX11_readUnit 202 (.getfield 31) 3 205 := ⟨by decide +kernel, rfl⟩
theorem eX11_readUnit_205 : DD cX11_readUnit 205 (.iload_n 1) 1 206 := ⟨by decide +kernel, rfl⟩
theorem eX11_readUnit_206 : DD cX11_readUnit 206 (.dup2) 1 207 := ⟨by decide +kernel, rfl⟩
theorem eX11_readUnit_207 : DD cX11_readUnit 207 (.iaload) 1 208 := ⟨by decide +kernel, rfl⟩
theorem eX11_readUnit_208 : DD cX11_readUnit 208 (.iconst 1) 1 209 := ⟨by decide +kernel, rfl⟩
theorem eX11_readUnit_209 : DD cX11_readUnit 209 (.iadd) 1 210 := ⟨by decide +kernel, rfl⟩
theorem eX11_readUnit_210 : DD cX11_readUnit 210 (.iastore) 1 211 := ⟨by decide +kernel, rfl⟩
theorem eX11_readUnit_211 : DD cX11_readUnit 211 (.return_) 1 212 := ⟨by decide +kernel, rfl⟩
def F_X11_readUnit_28  (μ : Mem) : Option (Unit × Mem) :=
  bd (G_X11_bad  μ) (fun r_2 μ_1 => some ((), μ_1))
set_option maxHeartbeats 4000000 in
theorem j_X11_readUnit_28 {C : Cx} (hC : Ok C cX11_readUnit 6 RX11 (rmF 3 65)) (hr : (cT C).sig.returnType = none)  (μ : Mem) : J C (KV C) μ 28 [(0, .ref (xad (cX C) 107))] [] (F_X11_readUnit_28   μ) := by
  unfold F_X11_readUnit_28
  refine J.aload_n (j := 0) hC eX11_readUnit_28 rfl ?_
  refine J.callVV (st := []) hC eX11_readUnit_29 kk_107 (by decide) rfl rfl ml_X11_98 mv_X11_bad (Rle_of (Nat.le_of_ble_eq_true rfl) (Nat.le_of_ble_eq_true rfl)) (c_X11_bad hC.X  μ) rfl rfl (Nat.le_of_ble_eq_true rfl) (fun r_2 μ_1 => ?_)
  exact J.vret hC hr eX11_readUnit_32
def F_X11_readUnit_201 (x1 : Int32) (μ : Mem) : Option (Unit × Mem) :=
  gq (inB x1 5) (gq (inB x1 5) (lb (wI μ 115 (nx x1) ((rI μ 115 (nx x1)) + (1 : Int32))) (fun μ_1 => some ((), μ_1))))
set_option maxHeartbeats 4000000 in
theorem j_X11_readUnit_201 {C : Cx} (hC : Ok C cX11_readUnit 6 RX11 (rmF 3 65)) (hr : (cT C).sig.returnType = none) (x1 : Int32) (μ : Mem) : J C (KV C) μ 201 [(0, .ref (xad (cX C) 107)), (1, .int x1)] [] (F_X11_readUnit_201  x1 μ) := by
  unfold F_X11_readUnit_201
  refine J.aload_n (j := 0) hC eX11_readUnit_201 rfl ?_
  refine gf_X11_31 (q := 115) hC eX11_readUnit_202 kk_107 rfl ?_
  refine J.iload_n (j := 1) hC eX11_readUnit_205 rfl ?_
  refine J.dup2 hC eX11_readUnit_206 rfl rfl ?_
  refine J.iald ik_5 hC eX11_readUnit_207 kk_115 ?_
  refine J.iconst hC eX11_readUnit_208 ci_1 ?_
  refine J.iadd hC eX11_readUnit_209 ?_
  refine J.iast ik_5 hC eX11_readUnit_210 kk_115 (fun μ_1 => ?_)
  exact J.vret hC hr eX11_readUnit_211
def F_X11_readUnit_148 (x1 : Int32) (x4 : Int32) (x5 : Int32) (xs1 : Int32) (xs2 : Int32) (μ : Mem) : Option (Unit × Mem) :=
  gq (inB xs1 120) (lb (wI μ 114 (nx xs1) xs2) (fun μ_1 => gq (inB (x4 + (2 : Int32)) 120) (if (rI μ_1 114 (nx (x4 + (2 : Int32)))) = (-1 : Int32) then bd (G_X11_bad  μ_1) (fun r_3 μ_2 => some ((), μ_2)) else lb (wI μ_1 107 3 ((rI μ_1 107 3) + (1 : Int32))) (fun μ_4 => if x5 = (63 : Int32) then F_X11_readUnit_201  x1 μ_4 else bd (G_X11_number (2 : Int32) (0 : Int32) (99 : Int32) μ_4) (fun r_6 μ_5 => gq (inB (x4 + (3 : Int32)) 120) (lb (wI μ_5 114 (nx (x4 + (3 : Int32))) r_6) (fun μ_7 => F_X11_readUnit_201  x1 μ_7)))))))
set_option maxHeartbeats 4000000 in
theorem j_X11_readUnit_148 {C : Cx} (hC : Ok C cX11_readUnit 6 RX11 (rmF 3 65)) (hr : (cT C).sig.returnType = none) (x1 : Int32) (x4 : Int32) (x5 : Int32) (xs1 : Int32) (xs2 : Int32) (μ : Mem) : J C (KV C) μ 148 [(0, .ref (xad (cX C) 107)), (1, .int x1), (4, .int x4), (5, .int x5)] [.int xs2, .int xs1, .ref (xad (cX C) 114)] (F_X11_readUnit_148  x1 x4 x5 xs1 xs2 μ) := by
  unfold F_X11_readUnit_148
  refine J.iast ik_120 hC eX11_readUnit_148 kk_114 (fun μ_1 => ?_)
  refine J.aload_n (j := 0) hC eX11_readUnit_149 rfl ?_
  refine gf_X11_28 (q := 114) hC eX11_readUnit_150 kk_107 rfl ?_
  refine J.iload (j := 2) hC eX11_readUnit_153 rfl ?_
  refine J.iconst hC eX11_readUnit_155 ci_2 ?_
  refine J.iadd hC eX11_readUnit_156 ?_
  refine J.iald ik_120 hC eX11_readUnit_157 kk_114 ?_
  refine J.iconst hC eX11_readUnit_158 ci_m1 ?_
  refine J.icmp_ne hC eX11_readUnit_159 (fun _ => ?_) (fun _ => ?_)
  · refine J.aload_n (j := 0) hC eX11_readUnit_162 rfl ?_
    refine J.callVV (st := []) hC eX11_readUnit_163 kk_107 (by decide) rfl rfl ml_X11_98 mv_X11_bad (Rle_of (Nat.le_of_ble_eq_true rfl) (Nat.le_of_ble_eq_true rfl)) (c_X11_bad hC.X  μ_1) rfl rfl (Nat.le_of_ble_eq_true rfl) (fun r_3 μ_2 => ?_)
    exact J.vret hC hr eX11_readUnit_166
  · refine J.aload_n (j := 0) hC eX11_readUnit_167 rfl ?_
    refine J.dup hC eX11_readUnit_168 rfl ?_
    refine gf_X11_81 hC eX11_readUnit_169 kk_107 ?_
    refine J.iconst hC eX11_readUnit_172 ci_1 ?_
    refine J.iadd hC eX11_readUnit_173 ?_
    refine pf_X11_81 hC eX11_readUnit_174 kk_107 (fun μ_4 => ?_)
    refine J.iload (j := 3) hC eX11_readUnit_177 rfl ?_
    refine J.bipush hC eX11_readUnit_179 cb_63 ?_
    refine J.icmp_eq hC eX11_readUnit_181 (fun _ => ?_) (fun _ => ?_)
    · refine J.sub [0, 1] rfl ?_
      exact j_X11_readUnit_201 hC hr  x1 μ_4
    · refine J.aload_n (j := 0) hC eX11_readUnit_184 rfl ?_
      refine gf_X11_28 (q := 114) hC eX11_readUnit_185 kk_107 rfl ?_
      refine J.iload (j := 2) hC eX11_readUnit_188 rfl ?_
      refine J.iconst hC eX11_readUnit_190 ci_3 ?_
      refine J.iadd hC eX11_readUnit_191 ?_
      refine J.aload_n (j := 0) hC eX11_readUnit_192 rfl ?_
      refine J.iconst hC eX11_readUnit_193 ci_2 ?_
      refine J.iconst hC eX11_readUnit_194 ci_0 ?_
      refine J.bipush hC eX11_readUnit_195 cb_99 ?_
      refine J.callVI (st := [.int (x4 + (3 : Int32)), .ref (xad (cX C) 114)]) hC eX11_readUnit_197 kk_107 (by decide) rfl rfl ml_X11_118 mv_X11_number (Rle_of (Nat.le_of_ble_eq_true rfl) (Nat.le_of_ble_eq_true rfl)) (c_X11_number hC.X (2 : Int32) (0 : Int32) (99 : Int32) μ_4) rfl rfl (Nat.le_of_ble_eq_true rfl) (fun r_6 μ_5 => ?_)
      refine J.iast ik_120 hC eX11_readUnit_200 kk_114 (fun μ_7 => ?_)
      refine J.sub [0, 1] rfl ?_
      exact j_X11_readUnit_201 hC hr  x1 μ_7
def F_X11_readUnit_17 (x1 : Int32) (x2 : Int32) (x3 : Int32) (μ : Mem) : Option (Unit × Mem) :=
  gq (inB x1 5) (if (rI μ 115 (nx x1)) = (6 : Int32) then F_X11_readUnit_28   μ else gq (inB x1 5) (lb ((4 : Int32) * (((6 : Int32) * x1) + (rI μ 115 (nx x1)))) (fun x4_1 => gq (inB x4_1 120) (lb (wI μ 114 (nx x4_1) x2) (fun μ_2 => gq (inB (x4_1 + (1 : Int32)) 120) (lb (wI μ_2 114 (nx (x4_1 + (1 : Int32))) (x3 - (97 : Int32))) (fun μ_3 => gq (inB (x4_1 + (3 : Int32)) 120) (lb (wI μ_3 114 (nx (x4_1 + (3 : Int32))) (-1 : Int32)) (fun μ_4 => lb (wI μ_4 107 3 ((rI μ_4 107 3) + (1 : Int32))) (fun μ_5 => bd (G_X11_ahead  μ_5) (fun r_7 μ_6 => if r_7 = (61 : Int32) then F_X11_readUnit_148  x1 x4_1 r_7 (x4_1 + (2 : Int32)) (0 : Int32) μ_6 else if r_7 = (60 : Int32) then F_X11_readUnit_148  x1 x4_1 r_7 (x4_1 + (2 : Int32)) (1 : Int32) μ_6 else if r_7 = (62 : Int32) then F_X11_readUnit_148  x1 x4_1 r_7 (x4_1 + (2 : Int32)) (2 : Int32) μ_6 else if r_7 = (63 : Int32) then F_X11_readUnit_148  x1 x4_1 r_7 (x4_1 + (2 : Int32)) (3 : Int32) μ_6 else F_X11_readUnit_148  x1 x4_1 r_7 (x4_1 + (2 : Int32)) (-1 : Int32) μ_6)))))))))))
set_option maxHeartbeats 4000000 in
theorem j_X11_readUnit_17 {C : Cx} (hC : Ok C cX11_readUnit 6 RX11 (rmF 3 65)) (hr : (cT C).sig.returnType = none) (x1 : Int32) (x2 : Int32) (x3 : Int32) (μ : Mem) : J C (KV C) μ 17 [(0, .ref (xad (cX C) 107)), (1, .int x1), (2, .int x2), (3, .int x3)] [] (F_X11_readUnit_17  x1 x2 x3 μ) := by
  unfold F_X11_readUnit_17
  refine J.aload_n (j := 0) hC eX11_readUnit_17 rfl ?_
  refine gf_X11_31 (q := 115) hC eX11_readUnit_18 kk_107 rfl ?_
  refine J.iload_n (j := 1) hC eX11_readUnit_21 rfl ?_
  refine J.iald ik_5 hC eX11_readUnit_22 kk_115 ?_
  refine J.bipush hC eX11_readUnit_23 cb_6 ?_
  refine J.icmp_ne hC eX11_readUnit_25 (fun _ => ?_) (fun _ => ?_)
  · refine J.sub [0] rfl ?_
    exact j_X11_readUnit_28 hC hr   μ
  · refine J.iconst hC eX11_readUnit_33 ci_4 ?_
    refine J.bipush hC eX11_readUnit_34 cb_6 ?_
    refine J.iload_n (j := 1) hC eX11_readUnit_36 rfl ?_
    refine J.imul hC eX11_readUnit_37 ?_
    refine J.aload_n (j := 0) hC eX11_readUnit_38 rfl ?_
    refine gf_X11_31 (q := 115) hC eX11_readUnit_39 kk_107 rfl ?_
    refine J.iload_n (j := 1) hC eX11_readUnit_42 rfl ?_
    refine J.iald ik_5 hC eX11_readUnit_43 kk_115 ?_
    refine J.iadd hC eX11_readUnit_44 ?_
    refine J.imul hC eX11_readUnit_45 ?_
    refine J.topi (fun x4_1 => ?_)
    refine J.istore [(4, .int x4_1), (0, .ref (xad (cX C) 107)), (1, .int x1), (2, .int x2), (3, .int x3)] hC eX11_readUnit_46 (by decide) rfl ?_
    refine J.aload_n (j := 1) hC eX11_readUnit_48 rfl ?_
    refine gf_X11_28 (q := 114) hC eX11_readUnit_49 kk_107 rfl ?_
    refine J.iload (j := 0) hC eX11_readUnit_52 rfl ?_
    refine J.iload_n (j := 3) hC eX11_readUnit_54 rfl ?_
    refine J.iast ik_120 hC eX11_readUnit_55 kk_114 (fun μ_2 => ?_)
    refine J.aload_n (j := 1) hC eX11_readUnit_56 rfl ?_
    refine gf_X11_28 (q := 114) hC eX11_readUnit_57 kk_107 rfl ?_
    refine J.iload (j := 0) hC eX11_readUnit_60 rfl ?_
    refine J.iconst hC eX11_readUnit_62 ci_1 ?_
    refine J.iadd hC eX11_readUnit_63 ?_
    refine J.iload_n (j := 4) hC eX11_readUnit_64 rfl ?_
    refine J.bipush hC eX11_readUnit_65 cb_97 ?_
    refine J.isub hC eX11_readUnit_67 ?_
    refine J.iast ik_120 hC eX11_readUnit_68 kk_114 (fun μ_3 => ?_)
    refine J.aload_n (j := 1) hC eX11_readUnit_69 rfl ?_
    refine gf_X11_28 (q := 114) hC eX11_readUnit_70 kk_107 rfl ?_
    refine J.iload (j := 0) hC eX11_readUnit_73 rfl ?_
    refine J.iconst hC eX11_readUnit_75 ci_3 ?_
    refine J.iadd hC eX11_readUnit_76 ?_
    refine J.iconst hC eX11_readUnit_77 ci_m1 ?_
    refine J.iast ik_120 hC eX11_readUnit_78 kk_114 (fun μ_4 => ?_)
    refine J.aload_n (j := 1) hC eX11_readUnit_79 rfl ?_
    refine J.dup hC eX11_readUnit_80 rfl ?_
    refine gf_X11_81 hC eX11_readUnit_81 kk_107 ?_
    refine J.iconst hC eX11_readUnit_84 ci_1 ?_
    refine J.iadd hC eX11_readUnit_85 ?_
    refine pf_X11_81 hC eX11_readUnit_86 kk_107 (fun μ_5 => ?_)
    refine J.aload_n (j := 1) hC eX11_readUnit_89 rfl ?_
    refine J.callVI (st := []) hC eX11_readUnit_90 kk_107 (by decide) rfl rfl ml_X11_91 mv_X11_ahead (Rle_of (Nat.le_of_ble_eq_true rfl) (Nat.le_of_ble_eq_true rfl)) (c_X11_ahead hC.X  μ_5) rfl rfl (Nat.le_of_ble_eq_true rfl) (fun r_7 μ_6 => ?_)
    refine J.istore [(5, .int r_7), (4, .int x4_1), (0, .ref (xad (cX C) 107)), (1, .int x1), (2, .int x2), (3, .int x3)] hC eX11_readUnit_93 (by decide) rfl ?_
    refine J.aload_n (j := 2) hC eX11_readUnit_95 rfl ?_
    refine gf_X11_28 (q := 114) hC eX11_readUnit_96 kk_107 rfl ?_
    refine J.iload (j := 1) hC eX11_readUnit_99 rfl ?_
    refine J.iconst hC eX11_readUnit_101 ci_2 ?_
    refine J.iadd hC eX11_readUnit_102 ?_
    refine J.iload (j := 0) hC eX11_readUnit_103 rfl ?_
    refine J.bipush hC eX11_readUnit_105 cb_61 ?_
    refine J.icmp_ne hC eX11_readUnit_107 (fun _ => ?_) (fun _ => ?_)
    · refine J.iconst hC eX11_readUnit_110 ci_0 ?_
      refine J.goto hC eX11_readUnit_111 ?_
      refine J.sub [2, 3, 1, 0] rfl ?_
      exact j_X11_readUnit_148 hC hr  x1 x4_1 r_7 (x4_1 + (2 : Int32)) (0 : Int32) μ_6
    · refine J.iload (j := 0) hC eX11_readUnit_114 rfl ?_
      refine J.bipush hC eX11_readUnit_116 cb_60 ?_
      refine J.icmp_ne hC eX11_readUnit_118 (fun _ => ?_) (fun _ => ?_)
      · refine J.iconst hC eX11_readUnit_121 ci_1 ?_
        refine J.goto hC eX11_readUnit_122 ?_
        refine J.sub [2, 3, 1, 0] rfl ?_
        exact j_X11_readUnit_148 hC hr  x1 x4_1 r_7 (x4_1 + (2 : Int32)) (1 : Int32) μ_6
      · refine J.iload (j := 0) hC eX11_readUnit_125 rfl ?_
        refine J.bipush hC eX11_readUnit_127 cb_62 ?_
        refine J.icmp_ne hC eX11_readUnit_129 (fun _ => ?_) (fun _ => ?_)
        · refine J.iconst hC eX11_readUnit_132 ci_2 ?_
          refine J.goto hC eX11_readUnit_133 ?_
          refine J.sub [2, 3, 1, 0] rfl ?_
          exact j_X11_readUnit_148 hC hr  x1 x4_1 r_7 (x4_1 + (2 : Int32)) (2 : Int32) μ_6
        · refine J.iload (j := 0) hC eX11_readUnit_136 rfl ?_
          refine J.bipush hC eX11_readUnit_138 cb_63 ?_
          refine J.icmp_ne hC eX11_readUnit_140 (fun _ => ?_) (fun _ => ?_)
          · refine J.iconst hC eX11_readUnit_143 ci_3 ?_
            refine J.goto hC eX11_readUnit_144 ?_
            refine J.sub [2, 3, 1, 0] rfl ?_
            exact j_X11_readUnit_148 hC hr  x1 x4_1 r_7 (x4_1 + (2 : Int32)) (3 : Int32) μ_6
          · refine J.iconst hC eX11_readUnit_147 ci_m1 ?_
            refine J.sub [2, 3, 1, 0] rfl ?_
            exact j_X11_readUnit_148 hC hr  x1 x4_1 r_7 (x4_1 + (2 : Int32)) (-1 : Int32) μ_6
def G_X11_readUnit (x1 : Int32) (x2 : Int32) (μ : Mem) : Option (Unit × Mem) :=
  bd (G_X11_ahead  μ) (fun r_2 μ_1 => if r_2 = (97 : Int32) then F_X11_readUnit_17  x1 x2 r_2 μ_1 else if r_2 = (98 : Int32) then F_X11_readUnit_17  x1 x2 r_2 μ_1 else F_X11_readUnit_28   μ_1)
set_option maxHeartbeats 4000000 in
theorem c_X11_readUnit {X : Wd} (hX : WdOk X) (x1 : Int32) (x2 : Int32) (μ : Mem) : CtV X yX11_readUnit cX11_readUnit 6 none (rmF 3 65) [.ref (xad X 107), .int x1, .int x2] μ (G_X11_readUnit x1 x2 μ) := by
  refine CtV.of hX (plainFor_of_name (by decide)) (by exact Nat.le_of_ble_eq_true rfl) ?_
  intro C hCX hC hr
  subst hCX
  show J C (KV C) μ 0 [(0, .ref (xad (cX C) 107)), (1, .int x1), (2, .int x2)] [] _
  unfold G_X11_readUnit
  refine J.aload_n (j := 0) hC eX11_readUnit_0 rfl ?_
  refine J.callVI (st := []) hC eX11_readUnit_1 kk_107 (by decide) rfl rfl ml_X11_91 mv_X11_ahead (Rle_of (Nat.le_of_ble_eq_true rfl) (Nat.le_of_ble_eq_true rfl)) (c_X11_ahead hC.X  μ) rfl rfl (Nat.le_of_ble_eq_true rfl) (fun r_2 μ_1 => ?_)
  refine J.istore_n [(3, .int r_2), (0, .ref (xad (cX C) 107)), (1, .int x1), (2, .int x2)] hC eX11_readUnit_4 (by decide) rfl ?_
  refine J.iload_n (j := 0) hC eX11_readUnit_5 rfl ?_
  refine J.bipush hC eX11_readUnit_6 cb_97 ?_
  refine J.icmp_eq hC eX11_readUnit_8 (fun _ => ?_) (fun _ => ?_)
  · refine J.sub [1, 2, 3, 0] rfl ?_
    exact j_X11_readUnit_17 hC hr  x1 x2 r_2 μ_1
  · refine J.iload_n (j := 0) hC eX11_readUnit_11 rfl ?_
    refine J.bipush hC eX11_readUnit_12 cb_98 ?_
    refine J.icmp_ne hC eX11_readUnit_14 (fun _ => ?_) (fun _ => ?_)
    · refine J.sub [1, 2, 3, 0] rfl ?_
      exact j_X11_readUnit_17 hC hr  x1 x2 r_2 μ_1
    · refine J.sub [1] rfl ?_
      exact j_X11_readUnit_28 hC hr   μ_1
-- X11_readWhere
theorem eX11_readWhere_0 : DD cX11_readWhere 0 (.aload_n 0) 1 1 := ⟨by decide +kernel, rfl⟩
theorem eX11_readWhere_1 : DD cX11_readWhere 1 (.iconst 0) 1 2 := ⟨by decide +kernel, rfl⟩
theorem eX11_readWhere_2 : DD cX11_readWhere 2 (.putfield 81) 3 5 := ⟨by decide +kernel, rfl⟩
theorem eX11_readWhere_5 : DD cX11_readWhere 5 (.aload_n 0) 1 6 := ⟨by decide +kernel, rfl⟩
theorem eX11_readWhere_6 : DD cX11_readWhere 6 (.iconst (-1)) 1 7 := ⟨by decide +kernel, rfl⟩
theorem eX11_readWhere_7 : DD cX11_readWhere 7 (.putfield 88) 3 10 := ⟨by decide +kernel, rfl⟩
theorem eX11_readWhere_10 : DD cX11_readWhere 10 (.aload_n 0) 1 11 := ⟨by decide +kernel, rfl⟩
theorem eX11_readWhere_11 : DD cX11_readWhere 11 (.getfield 31) 3 14 := ⟨by decide +kernel, rfl⟩
theorem eX11_readWhere_14 : DD cX11_readWhere 14 (.iload_n 1) 1 15 := ⟨by decide +kernel, rfl⟩
theorem eX11_readWhere_15 : DD cX11_readWhere 15 (.iconst 0) 1 16 := ⟨by decide +kernel, rfl⟩
theorem eX11_readWhere_16 : DD cX11_readWhere 16 (.iastore) 1 17 := ⟨by decide +kernel, rfl⟩
theorem eX11_readWhere_17 : DD cX11_readWhere 17 (.iconst 0) 1 18 := ⟨by decide +kernel, rfl⟩
theorem eX11_readWhere_18 : DD cX11_readWhere 18 (.istore_n 2) 1 19 := ⟨by decide +kernel, rfl⟩
theorem eX11_readWhere_19 : DD cX11_readWhere 19 (.iconst 1) 1 20 := ⟨by decide +kernel, rfl⟩
theorem eX11_readWhere_20 : DD cX11_readWhere 20 (.istore_n 3) 1 21 := ⟨by decide +kernel, rfl⟩
theorem eX11_readWhere_21 : DD cX11_readWhere 21 (.iload_n 3) 1 22 := ⟨by decide +kernel, rfl⟩
theorem eX11_readWhere_22 : DB cX11_readWhere 22 (.ifCond .eq 83) (83) 25 105 := ⟨by decide +kernel, rfl, by decide⟩
theorem eX11_readWhere_25 : DD cX11_readWhere 25 (.aload_n 0) 1 26 := ⟨by decide +kernel, rfl⟩
theorem eX11_readWhere_26 : DD cX11_readWhere 26 (.iload_n 1) 1 27 := ⟨by decide +kernel, rfl⟩
theorem eX11_readWhere_27 : DD cX11_readWhere 27 (.iload_n 2) 1 28 := ⟨by decide +kernel, rfl⟩
theorem eX11_readWhere_28 : DD cX11_readWhere 28 (.invokevirtual 136) 3 31 := ⟨by decide +kernel, rfl⟩
theorem eX11_readWhere_31 : DD cX11_readWhere 31 (.aload_n 0) 1 32 := ⟨by decide +kernel, rfl⟩
theorem eX11_readWhere_32 : DD cX11_readWhere 32 (.getfield 88) 3 35 := ⟨by decide +kernel, rfl⟩
theorem eX11_readWhere_35 : DD cX11_readWhere 35 (.iconst (-1)) 1 36 := ⟨by decide +kernel, rfl⟩
theorem eX11_readWhere_36 : DB cX11_readWhere 36 (.if_icmp .ne 10) (10) 39 46 := ⟨by decide +kernel, rfl, by decide⟩
theorem eX11_readWhere_39 : DD cX11_readWhere 39 (.aload_n 0) 1 40 := ⟨by decide +kernel, rfl⟩
theorem eX11_readWhere_40 : DD cX11_readWhere 40 (.invokevirtual 91) 3 43 := ⟨by decide +kernel, rfl⟩
theorem eX11_readWhere_43 : DB cX11_readWhere 43 (.goto 4) (4) 46 47 := ⟨by decide +kernel, rfl, by decide⟩
theorem eX11_readWhere_46 : DD cX11_readWhere 46 (.iconst (-1)) 1 47 := ⟨by decide +kernel, rfl⟩
theorem eX11_readWhere_47 : DD cX11_readWhere 47 (.istore 4) 2 49 := ⟨by decide +kernel, rfl⟩
theorem eX11_readWhere_49 : DD cX11_readWhere 49 (.iload 4) 2 51 := ⟨by decide +kernel, rfl⟩
theorem eX11_readWhere_51 : DD cX11_readWhere 51 (.bipush 38) 2 53 := ⟨by decide +kernel, rfl⟩
theorem eX11_readWhere_53 : DB cX11_readWhere 53 (.if_icmp .eq 10) (10) 56 63 := ⟨by decide +kernel, rfl, by decide⟩
theorem eX11_readWhere_56 : DD cX11_readWhere 56 (.iload 4) 2 58 := ⟨by decide +kernel, rfl⟩
theorem eX11_readWhere_58 : DD cX11_readWhere 58 (.bipush 124) 2 60 := ⟨by decide +kernel, rfl⟩
theorem eX11_readWhere_60 : DB cX11_readWhere 60 (.if_icmp .ne 7) (7) 63 67 := ⟨by decide +kernel, rfl, by decide⟩
theorem eX11_readWhere_63 : DD cX11_readWhere 63 (.iconst 1) 1 64 := ⟨by decide +kernel, rfl⟩
theorem eX11_readWhere_64 : DB cX11_readWhere 64 (.goto 4) (4) 67 68 := ⟨by decide +kernel, rfl, by decide⟩
theorem eX11_readWhere_67 : DD cX11_readWhere 67 (.iconst 0) 1 68 := ⟨by decide +kernel, rfl⟩
theorem eX11_readWhere_68 : DD cX11_readWhere 68 (.istore_n 3) 1 69 := ⟨by decide +kernel, rfl⟩
theorem eX11_readWhere_69 : DD cX11_readWhere 69 (.aload_n 0) 1 70 := ⟨by decide +kernel, rfl⟩
theorem eX11_readWhere_70 : DD cX11_readWhere 70 (.dup) 1 71 := ⟨by decide +kernel, rfl⟩
theorem eX11_readWhere_71 : DD cX11_readWhere 71 (.getfield 81) 3 74 := ⟨by decide +kernel, rfl⟩
theorem eX11_readWhere_74 : DD cX11_readWhere 74 (.iload_n 3) 1 75 := ⟨by decide +kernel, rfl⟩
theorem eX11_readWhere_75 : DB cX11_readWhere 75 (.ifCond .eq 7) (7) 78 82 := ⟨by decide +kernel, rfl, by decide⟩
theorem eX11_readWhere_78 : DD cX11_readWhere 78 (.iconst 1) 1 79 := ⟨by decide +kernel, rfl⟩
theorem eX11_readWhere_79 : DB cX11_readWhere 79 (.goto 4) (4) 82 83 := ⟨by decide +kernel, rfl, by decide⟩
theorem eX11_readWhere_82 : DD cX11_readWhere 82 (.iconst 0) 1 83 := ⟨by decide +kernel, rfl⟩
theorem eX11_readWhere_83 : DD cX11_readWhere 83 (.iadd) 1 84 := ⟨by decide +kernel, rfl⟩
theorem eX11_readWhere_84 : DD cX11_readWhere 84 (.putfield 81) 3 87 := ⟨by decide +kernel, rfl⟩
theorem eX11_readWhere_87 : DD cX11_readWhere 87 (.iload_n 2) 1 88 := ⟨by decide +kernel, rfl⟩
theorem eX11_readWhere_88 : DD cX11_readWhere 88 (.iload 4) 2 90 := ⟨by decide +kernel, rfl⟩
theorem eX11_readWhere_90 : DD cX11_readWhere 90 (.bipush 124) 2 92 := ⟨by decide +kernel, rfl⟩
theorem eX11_readWhere_92 : DB cX11_readWhere 92 (.if_icmp .ne 7) (7) 95 99 := ⟨by decide +kernel, rfl, by decide⟩
theorem eX11_readWhere_95 : DD cX11_readWhere 95 (.iconst 1) 1 96 := ⟨by decide +kernel, rfl⟩
theorem eX11_readWhere_96 : DB cX11_readWhere 96 (.goto 4) (4) 99 100 := ⟨by decide +kernel, rfl, by decide⟩
theorem eX11_readWhere_99 : DD cX11_readWhere 99 (.iconst 0) 1 100 := ⟨by decide +kernel, rfl⟩
theorem eX11_readWhere_100 : DD cX11_readWhere 100 (.iadd) 1 101 := ⟨by decide +kernel, rfl⟩
theorem eX11_readWhere_101 : DD cX11_readWhere 101 (.istore_n 2) 1 102 := ⟨by decide +kernel, rfl⟩
theorem eX11_readWhere_102 : DB cX11_readWhere 102 (.goto (-81)) (-81) 105 21 := ⟨by decide +kernel, rfl, by decide⟩
theorem eX11_readWhere_105 : DD cX11_readWhere 105 (.aload_n 0) 1 106 := ⟨by decide +kernel, rfl⟩
theorem eX11_readWhere_106 : DD cX11_readWhere 106 (.getfield 88) 3 109 := ⟨by decide +kernel, rfl⟩
theorem eX11_readWhere_109 : DD cX11_readWhere 109 (.iconst (-1)) 1 110 := ⟨by decide +kernel, rfl⟩
theorem eX11_readWhere_110 : DB cX11_readWhere 110 (.if_icmp .ne 15) (15) 113 125 := ⟨by decide +kernel, rfl, by decide⟩
theorem eX11_readWhere_113 : DD cX11_readWhere 113 (.aload_n 0) 1 114 := ⟨by decide +kernel, rfl⟩
theorem eX11_readWhere_114 : DD cX11_readWhere 114 (.invokevirtual 91) 3 117 := ⟨by decide +kernel, rfl⟩
theorem eX11_readWhere_117 : DD cX11_readWhere 117 (.iconst (-1)) 1 118 := ⟨by decide +kernel, rfl⟩
theorem eX11_readWhere_118 : DB cX11_readWhere 118 (.if_icmp .eq 7) (7) 121 125 := ⟨by decide +kernel, rfl, by decide⟩
theorem eX11_readWhere_121 : DD cX11_readWhere 121 (.aload_n 0) 1 122 := ⟨by decide +kernel, rfl⟩
theorem eX11_readWhere_122 : DD cX11_readWhere 122 (.invokevirtual 98) 3 125 := ⟨by decide +kernel, rfl⟩
theorem eX11_readWhere_125 : DD cX11_readWhere 125 (.aload_n 0) 1 126 := ⟨by decide +kernel, rfl⟩
theorem eX11_readWhere_126 : DD cX11_readWhere 126 (.getfield 88) 3 129 := ⟨by decide +kernel, rfl⟩
theorem eX11_readWhere_129 : DD cX11_readWhere 129 (.ireturn) 1 130 := ⟨by decide +kernel, rfl⟩
def F_X11_readWhere_125  (μ : Mem) : Option (Int32 × Mem) :=
  some (rI μ 107 4, μ)
set_option maxHeartbeats 4000000 in
theorem j_X11_readWhere_125 {C : Cx} (hC : Ok C cX11_readWhere 5 RX11 (rmF 4 90)) (hr : (cT C).sig.returnType = (some .int))  (μ : Mem) : J C (KI C) μ 125 [(0, .ref (xad (cX C) 107))] [] (F_X11_readWhere_125   μ) := by
  unfold F_X11_readWhere_125
  refine J.aload_n (j := 0) hC eX11_readWhere_125 rfl ?_
  refine gf_X11_88 hC eX11_readWhere_126 kk_107 ?_
  exact J.iret hC hr eX11_readWhere_129
def F_X11_readWhere_100 (kc_21 : Int32 → Int32 → Int32 → Mem → Option (Int32 × Mem)) (x1 : Int32) (x3 : Int32) (xs0 : Int32) (xs1 : Int32) (μ : Mem) : Option (Int32 × Mem) :=
  lb (xs0 + xs1) (fun x2_1 => kc_21 x1 x2_1 x3 μ)
set_option maxHeartbeats 4000000 in
theorem j_X11_readWhere_100 {C : Cx} (hC : Ok C cX11_readWhere 5 RX11 (rmF 4 90)) (hr : (cT C).sig.returnType = (some .int)) (kc_21 : Int32 → Int32 → Int32 → Mem → Option (Int32 × Mem)) (hk_21 : ∀ (x1 : Int32) (x2 : Int32) (x3 : Int32) (μ : Mem), J C (KI C) μ 21 [(0, .ref (xad (cX C) 107)), (1, .int x1), (2, .int x2), (3, .int x3)] [] (kc_21 x1 x2 x3 μ)) (x1 : Int32) (x3 : Int32) (xs0 : Int32) (xs1 : Int32) (μ : Mem) : J C (KI C) μ 100 [(0, .ref (xad (cX C) 107)), (1, .int x1), (3, .int x3)] [.int xs1, .int xs0] (F_X11_readWhere_100 kc_21 x1 x3 xs0 xs1 μ) := by
  unfold F_X11_readWhere_100
  refine J.iadd hC eX11_readWhere_100 ?_
  refine J.topi (fun x2_1 => ?_)
  refine J.istore_n [(2, .int x2_1), (0, .ref (xad (cX C) 107)), (1, .int x1), (3, .int x3)] hC eX11_readWhere_101 (by decide) rfl ?_
  refine J.goto hC eX11_readWhere_102 ?_
  refine J.sub [1, 2, 0, 3] rfl ?_
  exact hk_21 x1 x2_1 x3 μ
def F_X11_readWhere_83 (kc_21 : Int32 → Int32 → Int32 → Mem → Option (Int32 × Mem)) (x1 : Int32) (x2 : Int32) (x3 : Int32) (x4 : Int32) (xs1 : Int32) (xs2 : Int32) (μ : Mem) : Option (Int32 × Mem) :=
  lb (wI μ 107 3 (xs1 + xs2)) (fun μ_1 => if x4 = (124 : Int32) then F_X11_readWhere_100 kc_21 x1 x3 x2 (1 : Int32) μ_1 else F_X11_readWhere_100 kc_21 x1 x3 x2 (0 : Int32) μ_1)
set_option maxHeartbeats 4000000 in
theorem j_X11_readWhere_83 {C : Cx} (hC : Ok C cX11_readWhere 5 RX11 (rmF 4 90)) (hr : (cT C).sig.returnType = (some .int)) (kc_21 : Int32 → Int32 → Int32 → Mem → Option (Int32 × Mem)) (hk_21 : ∀ (x1 : Int32) (x2 : Int32) (x3 : Int32) (μ : Mem), J C (KI C) μ 21 [(0, .ref (xad (cX C) 107)), (1, .int x1), (2, .int x2), (3, .int x3)] [] (kc_21 x1 x2 x3 μ)) (x1 : Int32) (x2 : Int32) (x3 : Int32) (x4 : Int32) (xs1 : Int32) (xs2 : Int32) (μ : Mem) : J C (KI C) μ 83 [(0, .ref (xad (cX C) 107)), (1, .int x1), (2, .int x2), (3, .int x3), (4, .int x4)] [.int xs2, .int xs1, .ref (xad (cX C) 107)] (F_X11_readWhere_83 kc_21 x1 x2 x3 x4 xs1 xs2 μ) := by
  unfold F_X11_readWhere_83
  refine J.iadd hC eX11_readWhere_83 ?_
  refine pf_X11_81 hC eX11_readWhere_84 kk_107 (fun μ_1 => ?_)
  refine J.iload_n (j := 2) hC eX11_readWhere_87 rfl ?_
  refine J.iload (j := 4) hC eX11_readWhere_88 rfl ?_
  refine J.bipush hC eX11_readWhere_90 cb_124 ?_
  refine J.icmp_ne hC eX11_readWhere_92 (fun _ => ?_) (fun _ => ?_)
  · refine J.iconst hC eX11_readWhere_95 ci_1 ?_
    refine J.goto hC eX11_readWhere_96 ?_
    refine J.sub [0, 1, 3] rfl ?_
    exact j_X11_readWhere_100 hC hr kc_21 hk_21 x1 x3 x2 (1 : Int32) μ_1
  · refine J.iconst hC eX11_readWhere_99 ci_0 ?_
    refine J.sub [0, 1, 3] rfl ?_
    exact j_X11_readWhere_100 hC hr kc_21 hk_21 x1 x3 x2 (0 : Int32) μ_1
def F_X11_readWhere_68 (kc_21 : Int32 → Int32 → Int32 → Mem → Option (Int32 × Mem)) (x1 : Int32) (x2 : Int32) (x4 : Int32) (xs0 : Int32) (μ : Mem) : Option (Int32 × Mem) :=
  if xs0 = 0 then F_X11_readWhere_83 kc_21 x1 x2 xs0 x4 (rI μ 107 3) (0 : Int32) μ else F_X11_readWhere_83 kc_21 x1 x2 xs0 x4 (rI μ 107 3) (1 : Int32) μ
set_option maxHeartbeats 4000000 in
theorem j_X11_readWhere_68 {C : Cx} (hC : Ok C cX11_readWhere 5 RX11 (rmF 4 90)) (hr : (cT C).sig.returnType = (some .int)) (kc_21 : Int32 → Int32 → Int32 → Mem → Option (Int32 × Mem)) (hk_21 : ∀ (x1 : Int32) (x2 : Int32) (x3 : Int32) (μ : Mem), J C (KI C) μ 21 [(0, .ref (xad (cX C) 107)), (1, .int x1), (2, .int x2), (3, .int x3)] [] (kc_21 x1 x2 x3 μ)) (x1 : Int32) (x2 : Int32) (x4 : Int32) (xs0 : Int32) (μ : Mem) : J C (KI C) μ 68 [(0, .ref (xad (cX C) 107)), (1, .int x1), (2, .int x2), (4, .int x4)] [.int xs0] (F_X11_readWhere_68 kc_21 x1 x2 x4 xs0 μ) := by
  unfold F_X11_readWhere_68
  refine J.istore_n [(3, .int xs0), (0, .ref (xad (cX C) 107)), (1, .int x1), (2, .int x2), (4, .int x4)] hC eX11_readWhere_68 (by decide) rfl ?_
  refine J.aload_n (j := 1) hC eX11_readWhere_69 rfl ?_
  refine J.dup hC eX11_readWhere_70 rfl ?_
  refine gf_X11_81 hC eX11_readWhere_71 kk_107 ?_
  refine J.iload_n (j := 0) hC eX11_readWhere_74 rfl ?_
  refine J.if_eq hC eX11_readWhere_75 (fun _ => ?_) (fun _ => ?_)
  · refine J.iconst hC eX11_readWhere_82 ci_0 ?_
    refine J.sub [1, 2, 3, 0, 4] rfl ?_
    exact j_X11_readWhere_83 hC hr kc_21 hk_21 x1 x2 xs0 x4 (rI μ 107 3) (0 : Int32) μ
  · refine J.iconst hC eX11_readWhere_78 ci_1 ?_
    refine J.goto hC eX11_readWhere_79 ?_
    refine J.sub [1, 2, 3, 0, 4] rfl ?_
    exact j_X11_readWhere_83 hC hr kc_21 hk_21 x1 x2 xs0 x4 (rI μ 107 3) (1 : Int32) μ
def F_X11_readWhere_63 (kc_21 : Int32 → Int32 → Int32 → Mem → Option (Int32 × Mem)) (x1 : Int32) (x2 : Int32) (x4 : Int32) (μ : Mem) : Option (Int32 × Mem) :=
  F_X11_readWhere_68 kc_21 x1 x2 x4 (1 : Int32) μ
set_option maxHeartbeats 4000000 in
theorem j_X11_readWhere_63 {C : Cx} (hC : Ok C cX11_readWhere 5 RX11 (rmF 4 90)) (hr : (cT C).sig.returnType = (some .int)) (kc_21 : Int32 → Int32 → Int32 → Mem → Option (Int32 × Mem)) (hk_21 : ∀ (x1 : Int32) (x2 : Int32) (x3 : Int32) (μ : Mem), J C (KI C) μ 21 [(0, .ref (xad (cX C) 107)), (1, .int x1), (2, .int x2), (3, .int x3)] [] (kc_21 x1 x2 x3 μ)) (x1 : Int32) (x2 : Int32) (x4 : Int32) (μ : Mem) : J C (KI C) μ 63 [(0, .ref (xad (cX C) 107)), (1, .int x1), (2, .int x2), (4, .int x4)] [] (F_X11_readWhere_63 kc_21 x1 x2 x4 μ) := by
  unfold F_X11_readWhere_63
  refine J.iconst hC eX11_readWhere_63 ci_1 ?_
  refine J.goto hC eX11_readWhere_64 ?_
  refine J.sub [0, 1, 2, 3] rfl ?_
  exact j_X11_readWhere_68 hC hr kc_21 hk_21 x1 x2 x4 (1 : Int32) μ
def F_X11_readWhere_47 (kc_21 : Int32 → Int32 → Int32 → Mem → Option (Int32 × Mem)) (x1 : Int32) (x2 : Int32) (xs0 : Int32) (μ : Mem) : Option (Int32 × Mem) :=
  if xs0 = (38 : Int32) then F_X11_readWhere_63 kc_21 x1 x2 xs0 μ else if xs0 = (124 : Int32) then F_X11_readWhere_63 kc_21 x1 x2 xs0 μ else F_X11_readWhere_68 kc_21 x1 x2 xs0 (0 : Int32) μ
set_option maxHeartbeats 4000000 in
theorem j_X11_readWhere_47 {C : Cx} (hC : Ok C cX11_readWhere 5 RX11 (rmF 4 90)) (hr : (cT C).sig.returnType = (some .int)) (kc_21 : Int32 → Int32 → Int32 → Mem → Option (Int32 × Mem)) (hk_21 : ∀ (x1 : Int32) (x2 : Int32) (x3 : Int32) (μ : Mem), J C (KI C) μ 21 [(0, .ref (xad (cX C) 107)), (1, .int x1), (2, .int x2), (3, .int x3)] [] (kc_21 x1 x2 x3 μ)) (x1 : Int32) (x2 : Int32) (xs0 : Int32) (μ : Mem) : J C (KI C) μ 47 [(0, .ref (xad (cX C) 107)), (1, .int x1), (2, .int x2)] [.int xs0] (F_X11_readWhere_47 kc_21 x1 x2 xs0 μ) := by
  unfold F_X11_readWhere_47
  refine J.istore [(4, .int xs0), (0, .ref (xad (cX C) 107)), (1, .int x1), (2, .int x2)] hC eX11_readWhere_47 (by decide) rfl ?_
  refine J.iload (j := 0) hC eX11_readWhere_49 rfl ?_
  refine J.bipush hC eX11_readWhere_51 cb_38 ?_
  refine J.icmp_eq hC eX11_readWhere_53 (fun _ => ?_) (fun _ => ?_)
  · refine J.sub [1, 2, 3, 0] rfl ?_
    exact j_X11_readWhere_63 hC hr kc_21 hk_21 x1 x2 xs0 μ
  · refine J.iload (j := 0) hC eX11_readWhere_56 rfl ?_
    refine J.bipush hC eX11_readWhere_58 cb_124 ?_
    refine J.icmp_ne hC eX11_readWhere_60 (fun _ => ?_) (fun _ => ?_)
    · refine J.sub [1, 2, 3, 0] rfl ?_
      exact j_X11_readWhere_63 hC hr kc_21 hk_21 x1 x2 xs0 μ
    · refine J.iconst hC eX11_readWhere_67 ci_0 ?_
      refine J.sub [1, 2, 3, 0] rfl ?_
      exact j_X11_readWhere_68 hC hr kc_21 hk_21 x1 x2 xs0 (0 : Int32) μ
def L_X11_readWhere_21 : Nat → Int32 → Int32 → Int32 → Mem → Option (Int32 × Mem)
  | 0, _, _, _, _ => none
  | n + 1, x1, x2, x3, μ => if x3 = 0 then if (rI μ 107 4) = (-1 : Int32) then bd (G_X11_ahead  μ) (fun r_2 μ_1 => if r_2 = (-1 : Int32) then F_X11_readWhere_125   μ_1 else bd (G_X11_bad  μ_1) (fun r_4 μ_3 => F_X11_readWhere_125   μ_3)) else F_X11_readWhere_125   μ else bd (G_X11_readUnit x1 x2 μ) (fun r_6 μ_5 => if (rI μ_5 107 4) = (-1 : Int32) then bd (G_X11_ahead  μ_5) (fun r_8 μ_7 => F_X11_readWhere_47 (L_X11_readWhere_21  n) x1 x2 r_8 μ_7) else F_X11_readWhere_47 (L_X11_readWhere_21  n) x1 x2 (-1 : Int32) μ_5)
set_option maxHeartbeats 4000000 in
theorem j_X11_readWhere_21 {C : Cx} (hC : Ok C cX11_readWhere 5 RX11 (rmF 4 90)) (hr : (cT C).sig.returnType = (some .int)) : ∀ (n : Nat) (x1 : Int32) (x2 : Int32) (x3 : Int32) (μ : Mem), J C (KI C) μ 21 [(0, .ref (xad (cX C) 107)), (1, .int x1), (2, .int x2), (3, .int x3)] [] (L_X11_readWhere_21  n x1 x2 x3 μ) := by
  intro n
  induction n with
  | zero => intros; exact J.no
  | succ n ih =>
    intro x1 x2 x3 μ
    rw [L_X11_readWhere_21]
    refine J.iload_n (j := 3) hC eX11_readWhere_21 rfl ?_
    refine J.if_eq hC eX11_readWhere_22 (fun _ => ?_) (fun _ => ?_)
    · refine J.aload_n (j := 0) hC eX11_readWhere_105 rfl ?_
      refine gf_X11_88 hC eX11_readWhere_106 kk_107 ?_
      refine J.iconst hC eX11_readWhere_109 ci_m1 ?_
      refine J.icmp_ne hC eX11_readWhere_110 (fun _ => ?_) (fun _ => ?_)
      · refine J.aload_n (j := 0) hC eX11_readWhere_113 rfl ?_
        refine J.callVI (st := []) hC eX11_readWhere_114 kk_107 (by decide) rfl rfl ml_X11_91 mv_X11_ahead (Rle_of (Nat.le_of_ble_eq_true rfl) (Nat.le_of_ble_eq_true rfl)) (c_X11_ahead hC.X  μ) rfl rfl (Nat.le_of_ble_eq_true rfl) (fun r_2 μ_1 => ?_)
        refine J.iconst hC eX11_readWhere_117 ci_m1 ?_
        refine J.icmp_eq hC eX11_readWhere_118 (fun _ => ?_) (fun _ => ?_)
        · refine J.sub [0] rfl ?_
          exact j_X11_readWhere_125 hC hr   μ_1
        · refine J.aload_n (j := 0) hC eX11_readWhere_121 rfl ?_
          refine J.callVV (st := []) hC eX11_readWhere_122 kk_107 (by decide) rfl rfl ml_X11_98 mv_X11_bad (Rle_of (Nat.le_of_ble_eq_true rfl) (Nat.le_of_ble_eq_true rfl)) (c_X11_bad hC.X  μ_1) rfl rfl (Nat.le_of_ble_eq_true rfl) (fun r_4 μ_3 => ?_)
          refine J.sub [0] rfl ?_
          exact j_X11_readWhere_125 hC hr   μ_3
      · refine J.sub [0] rfl ?_
        exact j_X11_readWhere_125 hC hr   μ
    · refine J.aload_n (j := 0) hC eX11_readWhere_25 rfl ?_
      refine J.iload_n (j := 1) hC eX11_readWhere_26 rfl ?_
      refine J.iload_n (j := 2) hC eX11_readWhere_27 rfl ?_
      refine J.callVV (st := []) hC eX11_readWhere_28 kk_107 (by decide) rfl rfl ml_X11_136 mv_X11_readUnit (Rle_of (Nat.le_of_ble_eq_true rfl) (Nat.le_of_ble_eq_true rfl)) (c_X11_readUnit hC.X x1 x2 μ) rfl rfl (Nat.le_of_ble_eq_true rfl) (fun r_6 μ_5 => ?_)
      refine J.aload_n (j := 0) hC eX11_readWhere_31 rfl ?_
      refine gf_X11_88 hC eX11_readWhere_32 kk_107 ?_
      refine J.iconst hC eX11_readWhere_35 ci_m1 ?_
      refine J.icmp_ne hC eX11_readWhere_36 (fun _ => ?_) (fun _ => ?_)
      · refine J.aload_n (j := 0) hC eX11_readWhere_39 rfl ?_
        refine J.callVI (st := []) hC eX11_readWhere_40 kk_107 (by decide) rfl rfl ml_X11_91 mv_X11_ahead (Rle_of (Nat.le_of_ble_eq_true rfl) (Nat.le_of_ble_eq_true rfl)) (c_X11_ahead hC.X  μ_5) rfl rfl (Nat.le_of_ble_eq_true rfl) (fun r_8 μ_7 => ?_)
        refine J.goto hC eX11_readWhere_43 ?_
        refine J.sub [0, 1, 2] rfl ?_
        exact j_X11_readWhere_47 hC hr (L_X11_readWhere_21  n) ih x1 x2 r_8 μ_7
      · refine J.iconst hC eX11_readWhere_46 ci_m1 ?_
        refine J.sub [0, 1, 2] rfl ?_
        exact j_X11_readWhere_47 hC hr (L_X11_readWhere_21  n) ih x1 x2 (-1 : Int32) μ_5
def G_X11_readWhere (x1 : Int32) (μ : Mem) : Option (Int32 × Mem) :=
  lb (wI μ 107 3 (0 : Int32)) (fun μ_1 => lb (wI μ_1 107 4 (-1 : Int32)) (fun μ_2 => gq (inB x1 5) (lb (wI μ_2 115 (nx x1) (0 : Int32)) (fun μ_3 => L_X11_readWhere_21  100000 x1 (0 : Int32) (1 : Int32) μ_3))))
set_option maxHeartbeats 4000000 in
theorem c_X11_readWhere {X : Wd} (hX : WdOk X) (x1 : Int32) (μ : Mem) : CtI X yX11_readWhere cX11_readWhere 5 (some .int) (rmF 4 90) [.ref (xad X 107), .int x1] μ (G_X11_readWhere x1 μ) := by
  refine CtI.of hX (plainFor_of_name (by decide)) (by exact Nat.le_of_ble_eq_true rfl) ?_
  intro C hCX hC hr
  subst hCX
  show J C (KI C) μ 0 [(0, .ref (xad (cX C) 107)), (1, .int x1)] [] _
  unfold G_X11_readWhere
  refine J.aload_n (j := 0) hC eX11_readWhere_0 rfl ?_
  refine J.iconst hC eX11_readWhere_1 ci_0 ?_
  refine pf_X11_81 hC eX11_readWhere_2 kk_107 (fun μ_1 => ?_)
  refine J.aload_n (j := 0) hC eX11_readWhere_5 rfl ?_
  refine J.iconst hC eX11_readWhere_6 ci_m1 ?_
  refine pf_X11_88 hC eX11_readWhere_7 kk_107 (fun μ_2 => ?_)
  refine J.aload_n (j := 0) hC eX11_readWhere_10 rfl ?_
  refine gf_X11_31 (q := 115) hC eX11_readWhere_11 kk_107 rfl ?_
  refine J.iload_n (j := 1) hC eX11_readWhere_14 rfl ?_
  refine J.iconst hC eX11_readWhere_15 ci_0 ?_
  refine J.iast ik_5 hC eX11_readWhere_16 kk_115 (fun μ_3 => ?_)
  refine J.iconst hC eX11_readWhere_17 ci_0 ?_
  refine J.istore_n [(2, .int (0 : Int32)), (0, .ref (xad (cX C) 107)), (1, .int x1)] hC eX11_readWhere_18 (by decide) rfl ?_
  refine J.iconst hC eX11_readWhere_19 ci_1 ?_
  refine J.istore_n [(3, .int (1 : Int32)), (2, .int (0 : Int32)), (0, .ref (xad (cX C) 107)), (1, .int x1)] hC eX11_readWhere_20 (by decide) rfl ?_
  refine J.sub [2, 3, 1, 0] rfl ?_
  exact j_X11_readWhere_21 hC hr  100000 x1 (0 : Int32) (1 : Int32) μ_3
-- X11_fault
theorem eX11_fault_0 : DD cX11_fault 0 (.iload_n 1) 1 1 := ⟨by decide +kernel, rfl⟩
theorem eX11_fault_1 : DB cX11_fault 1 (.ifCond .ne 10) (10) 4 11 := ⟨by decide +kernel, rfl, by decide⟩
theorem eX11_fault_4 : DD cX11_fault 4 (.aload_n 0) 1 5 := ⟨by decide +kernel, rfl⟩
theorem eX11_fault_5 : DD cX11_fault 5 (.invokevirtual 140) 3 8 := ⟨by decide +kernel, rfl⟩
theorem eX11_fault_8 : DB cX11_fault 8 (.goto 18) (18) 11 26 := ⟨by decide +kernel, rfl, by decide⟩
theorem eX11_fault_11 : DD cX11_fault 11 (.iload_n 1) 1 12 := ⟨by decide +kernel, rfl⟩
theorem eX11_fault_12 : DD cX11_fault 12 (.iconst 1) 1 13 := ⟨by decide +kernel, rfl⟩
theorem eX11_fault_13 : DB cX11_fault 13 (.if_icmp .ne 11) (11) 16 24 := ⟨by decide +kernel, rfl, by decide⟩
theorem eX11_fault_16 : DD cX11_fault 16 (.aload_n 0) 1 17 := ⟨by decide +kernel, rfl⟩
theorem eX11_fault_17 : DD cX11_fault 17 (.iconst 4) 1 18 := ⟨by decide +kernel, rfl⟩
theorem eX11_fault_18 : DD cX11_fault 18 (.invokevirtual 143) 3 21 := ⟨by decide +kernel, rfl⟩
theorem eX11_fault_21 : DB cX11_fault 21 (.goto 5) (5) 24 26 := ⟨by decide +kernel, rfl, by decide⟩
theorem eX11_fault_24 : DD cX11_fault 24 (.bipush (-2)) 2 26 := ⟨by decide +kernel, rfl⟩
theorem eX11_fault_26 : DD cX11_fault 26 (.ireturn) 1 27 := ⟨by decide +kernel, rfl⟩
def G_X11_fault (x1 : Int32) (μ : Mem) : Option (Int32 × Mem) :=
  if x1 = 0 then bd (G_X11_readBook  μ) (fun r_2 μ_1 => some (r_2, μ_1)) else if x1 = (1 : Int32) then bd (G_X11_readWhere (4 : Int32) μ) (fun r_4 μ_3 => some (r_4, μ_3)) else some ((-2 : Int32), μ)
set_option maxHeartbeats 4000000 in
theorem c_X11_fault {X : Wd} (hX : WdOk X) (x1 : Int32) (μ : Mem) : CtI X yX11_fault cX11_fault 2 (some .int) (rmF 5 114) [.ref (xad X 107), .int x1] μ (G_X11_fault x1 μ) := by
  refine CtI.of hX (plainFor_of_name (by decide)) (by exact Nat.le_of_ble_eq_true rfl) ?_
  intro C hCX hC hr
  subst hCX
  show J C (KI C) μ 0 [(0, .ref (xad (cX C) 107)), (1, .int x1)] [] _
  unfold G_X11_fault
  refine J.iload_n (j := 1) hC eX11_fault_0 rfl ?_
  refine J.if_ne hC eX11_fault_1 (fun _ => ?_) (fun _ => ?_)
  · refine J.aload_n (j := 0) hC eX11_fault_4 rfl ?_
    refine J.callVI (st := []) hC eX11_fault_5 kk_107 (by decide) rfl rfl ml_X11_140 mv_X11_readBook (Rle_of (Nat.le_of_ble_eq_true rfl) (Nat.le_of_ble_eq_true rfl)) (c_X11_readBook hC.X  μ) rfl rfl (Nat.le_of_ble_eq_true rfl) (fun r_2 μ_1 => ?_)
    refine J.goto hC eX11_fault_8 ?_
    exact J.iret hC hr eX11_fault_26
  · refine J.iload_n (j := 1) hC eX11_fault_11 rfl ?_
    refine J.iconst hC eX11_fault_12 ci_1 ?_
    refine J.icmp_ne hC eX11_fault_13 (fun _ => ?_) (fun _ => ?_)
    · refine J.aload_n (j := 0) hC eX11_fault_16 rfl ?_
      refine J.iconst hC eX11_fault_17 ci_4 ?_
      refine J.callVI (st := []) hC eX11_fault_18 kk_107 (by decide) rfl rfl ml_X11_143 mv_X11_readWhere (Rle_of (Nat.le_of_ble_eq_true rfl) (Nat.le_of_ble_eq_true rfl)) (c_X11_readWhere hC.X (4 : Int32) μ) rfl rfl (Nat.le_of_ble_eq_true rfl) (fun r_4 μ_3 => ?_)
      refine J.goto hC eX11_fault_21 ?_
      exact J.iret hC hr eX11_fault_26
    · refine J.bipush hC eX11_fault_24 cb_m2 ?_
      exact J.iret hC hr eX11_fault_26
-- X11_place
theorem eX11_place_0 : DD cX11_place 0 (.sipush 357) 3 3 := ⟨by decide +kernel, rfl⟩
theorem eX11_place_3 : DD cX11_place 3 (.iload_n 0) 1 4 := ⟨by decide +kernel, rfl⟩
theorem eX11_place_4 : DD cX11_place 4 (.imul) 1 5 := ⟨by decide +kernel, rfl⟩
theorem eX11_place_5 : DD cX11_place 5 (.bipush 17) 2 7 := ⟨by decide +kernel, rfl⟩
theorem eX11_place_7 : DD cX11_place 7 (.iload_n 1) 1 8 := ⟨by decide +kernel, rfl⟩
theorem eX11_place_8 : DD cX11_place 8 (.iconst (-1)) 1 9 := ⟨by decide +kernel, rfl⟩
theorem eX11_place_9 : DB cX11_place 9 (.if_icmp .ne 8) (8) 12 17 := ⟨by decide +kernel, rfl, by decide⟩
theorem eX11_place_12 : DD cX11_place 12 (.bipush 16) 2 14 := ⟨by decide +kernel, rfl⟩
theorem eX11_place_14 : DB cX11_place 14 (.goto 4) (4) 17 18 := ⟨by decide +kernel, rfl, by decide⟩
theorem eX11_place_17 : DD cX11_place 17 (.iload_n 1) 1 18 := ⟨by decide +kernel, rfl⟩
theorem eX11_place_18 : DD cX11_place 18 (.imul) 1 19 := ⟨by decide +kernel, rfl⟩
theorem eX11_place_19 : DD cX11_place 19 (.iadd) 1 20 := ⟨by decide +kernel, rfl⟩
theorem eX11_place_20 : DD cX11_place 20 (.iload_n 2) 1 21 := ⟨by decide +kernel, rfl⟩
theorem eX11_place_21 : DD cX11_place 21 (.iconst (-1)) 1 22 := ⟨by decide +kernel, rfl⟩
theorem eX11_place_22 : DB cX11_place 22 (.if_icmp .ne 8) (8) 25 30 := ⟨by decide +kernel, rfl, by decide⟩
theorem eX11_place_25 : DD cX11_place 25 (.bipush 16) 2 27 := ⟨by decide +kernel, rfl⟩
theorem eX11_place_27 : DB cX11_place 27 (.goto 4) (4) 30 31 := ⟨by decide +kernel, rfl, by decide⟩
theorem eX11_place_30 : DD cX11_place 30 (.iload_n 2) 1 31 := ⟨by decide +kernel, rfl⟩
theorem eX11_place_31 : DD cX11_place 31 (.iadd) 1 32 := ⟨by decide +kernel, rfl⟩
theorem eX11_place_32 : DD cX11_place 32 (.ireturn) 1 33 := ⟨by decide +kernel, rfl⟩
def F_X11_place_31 (xs0 : Int32) (xs1 : Int32) (μ : Mem) : Option (Int32 × Mem) :=
  some (xs0 + xs1, μ)
set_option maxHeartbeats 4000000 in
theorem j_X11_place_31 {C : Cx} (hC : Ok C cX11_place 3 RX11 (rmF 0 0)) (hr : (cT C).sig.returnType = (some .int)) (xs0 : Int32) (xs1 : Int32) (μ : Mem) : J C (KI C) μ 31 [] [.int xs1, .int xs0] (F_X11_place_31  xs0 xs1 μ) := by
  unfold F_X11_place_31
  refine J.iadd hC eX11_place_31 ?_
  exact J.iret hC hr eX11_place_32
def F_X11_place_18 (x2 : Int32) (xs0 : Int32) (xs1 : Int32) (xs2 : Int32) (μ : Mem) : Option (Int32 × Mem) :=
  if x2 = (-1 : Int32) then F_X11_place_31  (xs0 + (xs1 * xs2)) (16 : Int32) μ else F_X11_place_31  (xs0 + (xs1 * xs2)) x2 μ
set_option maxHeartbeats 4000000 in
theorem j_X11_place_18 {C : Cx} (hC : Ok C cX11_place 3 RX11 (rmF 0 0)) (hr : (cT C).sig.returnType = (some .int)) (x2 : Int32) (xs0 : Int32) (xs1 : Int32) (xs2 : Int32) (μ : Mem) : J C (KI C) μ 18 [(2, .int x2)] [.int xs2, .int xs1, .int xs0] (F_X11_place_18  x2 xs0 xs1 xs2 μ) := by
  unfold F_X11_place_18
  refine J.imul hC eX11_place_18 ?_
  refine J.iadd hC eX11_place_19 ?_
  refine J.iload_n (j := 0) hC eX11_place_20 rfl ?_
  refine J.iconst hC eX11_place_21 ci_m1 ?_
  refine J.icmp_ne hC eX11_place_22 (fun _ => ?_) (fun _ => ?_)
  · refine J.bipush hC eX11_place_25 cb_16 ?_
    refine J.goto hC eX11_place_27 ?_
    refine J.sub [] rfl ?_
    exact j_X11_place_31 hC hr  (xs0 + (xs1 * xs2)) (16 : Int32) μ
  · refine J.iload_n (j := 0) hC eX11_place_30 rfl ?_
    refine J.sub [] rfl ?_
    exact j_X11_place_31 hC hr  (xs0 + (xs1 * xs2)) x2 μ
def G_X11_place (x0 : Int32) (x1 : Int32) (x2 : Int32) (μ : Mem) : Option (Int32 × Mem) :=
  if x1 = (-1 : Int32) then F_X11_place_18  x2 ((357 : Int32) * x0) (17 : Int32) (16 : Int32) μ else F_X11_place_18  x2 ((357 : Int32) * x0) (17 : Int32) x1 μ
set_option maxHeartbeats 4000000 in
theorem c_X11_place {X : Wd} (hX : WdOk X) (x0 : Int32) (x1 : Int32) (x2 : Int32) (μ : Mem) : CtI X yX11_place cX11_place 3 (some .int) (rmF 0 0) [.int x0, .int x1, .int x2] μ (G_X11_place x0 x1 x2 μ) := by
  refine CtI.of hX (plainFor_of_name (by decide)) (by exact Nat.le_of_ble_eq_true rfl) ?_
  intro C hCX hC hr
  subst hCX
  show J C (KI C) μ 0 [(0, .int x0), (1, .int x1), (2, .int x2)] [] _
  unfold G_X11_place
  refine J.sipush hC eX11_place_0 cs_357 ?_
  refine J.iload_n (j := 0) hC eX11_place_3 rfl ?_
  refine J.imul hC eX11_place_4 ?_
  refine J.bipush hC eX11_place_5 cb_17 ?_
  refine J.iload_n (j := 1) hC eX11_place_7 rfl ?_
  refine J.iconst hC eX11_place_8 ci_m1 ?_
  refine J.icmp_ne hC eX11_place_9 (fun _ => ?_) (fun _ => ?_)
  · refine J.bipush hC eX11_place_12 cb_16 ?_
    refine J.goto hC eX11_place_14 ?_
    refine J.sub [2] rfl ?_
    exact j_X11_place_18 hC hr  x2 ((357 : Int32) * x0) (17 : Int32) (16 : Int32) μ
  · refine J.iload_n (j := 1) hC eX11_place_17 rfl ?_
    refine J.sub [2] rfl ?_
    exact j_X11_place_18 hC hr  x2 ((357 : Int32) * x0) (17 : Int32) x1 μ
-- X11_column
theorem eX11_column_0 : DD cX11_column 0 (.sipush 357) 3 3 := ⟨by decide +kernel, rfl⟩
theorem eX11_column_3 : DD cX11_column 3 (.iload_n 0) 1 4 := ⟨by decide +kernel, rfl⟩
theorem eX11_column_4 : DD cX11_column 4 (.imul) 1 5 := ⟨by decide +kernel, rfl⟩
theorem eX11_column_5 : DD cX11_column 5 (.sipush 289) 3 8 := ⟨by decide +kernel, rfl⟩
theorem eX11_column_8 : DD cX11_column 8 (.iadd) 1 9 := ⟨by decide +kernel, rfl⟩
theorem eX11_column_9 : DD cX11_column 9 (.bipush 34) 2 11 := ⟨by decide +kernel, rfl⟩
theorem eX11_column_11 : DD cX11_column 11 (.iload_n 1) 1 12 := ⟨by decide +kernel, rfl⟩
theorem eX11_column_12 : DD cX11_column 12 (.imul) 1 13 := ⟨by decide +kernel, rfl⟩
theorem eX11_column_13 : DD cX11_column 13 (.iadd) 1 14 := ⟨by decide +kernel, rfl⟩
theorem eX11_column_14 : DD cX11_column 14 (.ireturn) 1 15 := ⟨by decide +kernel, rfl⟩
def G_X11_column (x0 : Int32) (x1 : Int32) (μ : Mem) : Option (Int32 × Mem) :=
  some ((((357 : Int32) * x0) + (289 : Int32)) + ((34 : Int32) * x1), μ)
set_option maxHeartbeats 4000000 in
theorem c_X11_column {X : Wd} (hX : WdOk X) (x0 : Int32) (x1 : Int32) (μ : Mem) : CtI X yX11_column cX11_column 2 (some .int) (rmF 0 0) [.int x0, .int x1] μ (G_X11_column x0 x1 μ) := by
  refine CtI.of hX (plainFor_of_name (by decide)) (by exact Nat.le_of_ble_eq_true rfl) ?_
  intro C hCX hC hr
  subst hCX
  show J C (KI C) μ 0 [(0, .int x0), (1, .int x1)] [] _
  unfold G_X11_column
  refine J.sipush hC eX11_column_0 cs_357 ?_
  refine J.iload_n (j := 0) hC eX11_column_3 rfl ?_
  refine J.imul hC eX11_column_4 ?_
  refine J.sipush hC eX11_column_5 cs_289 ?_
  refine J.iadd hC eX11_column_8 ?_
  refine J.bipush hC eX11_column_9 cb_34 ?_
  refine J.iload_n (j := 1) hC eX11_column_11 rfl ?_
  refine J.imul hC eX11_column_12 ?_
  refine J.iadd hC eX11_column_13 ?_
  exact J.iret hC hr eX11_column_14
-- X11_drift
theorem eX11_drift_0 : DD cX11_drift 0 (.iload_n 0) 1 1 := ⟨by decide +kernel, rfl⟩
theorem eX11_drift_1 : DD cX11_drift 1 (.iload_n 1) 1 2 := ⟨by decide +kernel, rfl⟩
theorem eX11_drift_2 : DD cX11_drift 2 (.invokestatic 147) 3 5 := ⟨by decide +kernel, rfl⟩
theorem eX11_drift_5 : DD cX11_drift 5 (.bipush 34) 2 7 := ⟨by decide +kernel, rfl⟩
theorem eX11_drift_7 : DD cX11_drift 7 (.iadd) 1 8 := ⟨by decide +kernel, rfl⟩
theorem eX11_drift_8 : DD cX11_drift 8 (.iconst 1) 1 9 := ⟨by decide +kernel, rfl⟩
theorem eX11_drift_9 : DD cX11_drift 9 (.isub) 1 10 := ⟨by decide +kernel, rfl⟩
theorem eX11_drift_10 : DD cX11_drift 10 (.ireturn) 1 11 := ⟨by decide +kernel, rfl⟩
def G_X11_drift (x0 : Int32) (x1 : Int32) (μ : Mem) : Option (Int32 × Mem) :=
  bd (G_X11_column x0 x1 μ) (fun r_2 μ_1 => some ((r_2 + (34 : Int32)) - (1 : Int32), μ_1))
set_option maxHeartbeats 4000000 in
theorem c_X11_drift {X : Wd} (hX : WdOk X) (x0 : Int32) (x1 : Int32) (μ : Mem) : CtI X yX11_drift cX11_drift 2 (some .int) (rmF 1 21) [.int x0, .int x1] μ (G_X11_drift x0 x1 μ) := by
  refine CtI.of hX (plainFor_of_name (by decide)) (by exact Nat.le_of_ble_eq_true rfl) ?_
  intro C hCX hC hr
  subst hCX
  show J C (KI C) μ 0 [(0, .int x0), (1, .int x1)] [] _
  unfold G_X11_drift
  refine J.iload_n (j := 0) hC eX11_drift_0 rfl ?_
  refine J.iload_n (j := 1) hC eX11_drift_1 rfl ?_
  refine J.callSI (st := []) hC eX11_drift_2 ml_X11_147 mv_X11_column (Rle_of (Nat.le_of_ble_eq_true rfl) (Nat.le_of_ble_eq_true rfl)) (c_X11_column hC.X x0 x1 μ) rfl rfl (Nat.le_of_ble_eq_true rfl) (fun r_2 μ_1 => ?_)
  refine J.bipush hC eX11_drift_5 cb_34 ?_
  refine J.iadd hC eX11_drift_7 ?_
  refine J.iconst hC eX11_drift_8 ci_1 ?_
  refine J.isub hC eX11_drift_9 ?_
  exact J.iret hC hr eX11_drift_10
-- X11_bucketMany
theorem eX11_bucketMany_0 : DD cX11_bucketMany 0 (.aload_n 0) 1 1 := ⟨by decide +kernel, rfl⟩
theorem eX11_bucketMany_1 : DD cX11_bucketMany 1 (.getfield 34) 3 4 := ⟨by decide +kernel, rfl⟩
theorem eX11_bucketMany_4 : DD cX11_bucketMany 4 (.iload_n 1) 1 5 := ⟨by decide +kernel, rfl⟩
theorem eX11_bucketMany_5 : DD cX11_bucketMany 5 (.iload_n 2) 1 6 := ⟨by decide +kernel, rfl⟩
theorem eX11_bucketMany_6 : DD cX11_bucketMany 6 (.invokestatic 147) 3 9 := ⟨by decide +kernel, rfl⟩
theorem eX11_bucketMany_9 : DD cX11_bucketMany 9 (.iaload) 1 10 := ⟨by decide +kernel, rfl⟩
theorem eX11_bucketMany_10 : DD cX11_bucketMany 10 (.ireturn) 1 11 := ⟨by decide +kernel, rfl⟩
def G_X11_bucketMany (x1 : Int32) (x2 : Int32) (μ : Mem) : Option (Int32 × Mem) :=
  bd (G_X11_column x1 x2 μ) (fun r_2 μ_1 => gq (inB r_2 1253) (some (rI μ_1 116 (nx r_2), μ_1)))
set_option maxHeartbeats 4000000 in
theorem c_X11_bucketMany {X : Wd} (hX : WdOk X) (x1 : Int32) (x2 : Int32) (μ : Mem) : CtI X yX11_bucketMany cX11_bucketMany 3 (some .int) (rmF 1 21) [.ref (xad X 107), .int x1, .int x2] μ (G_X11_bucketMany x1 x2 μ) := by
  refine CtI.of hX (plainFor_of_name (by decide)) (by exact Nat.le_of_ble_eq_true rfl) ?_
  intro C hCX hC hr
  subst hCX
  show J C (KI C) μ 0 [(0, .ref (xad (cX C) 107)), (1, .int x1), (2, .int x2)] [] _
  unfold G_X11_bucketMany
  refine J.aload_n (j := 0) hC eX11_bucketMany_0 rfl ?_
  refine gf_X11_34 (q := 116) hC eX11_bucketMany_1 kk_107 rfl ?_
  refine J.iload_n (j := 1) hC eX11_bucketMany_4 rfl ?_
  refine J.iload_n (j := 2) hC eX11_bucketMany_5 rfl ?_
  refine J.callSI (st := [.ref (xad (cX C) 116)]) hC eX11_bucketMany_6 ml_X11_147 mv_X11_column (Rle_of (Nat.le_of_ble_eq_true rfl) (Nat.le_of_ble_eq_true rfl)) (c_X11_column hC.X x1 x2 μ) rfl rfl (Nat.le_of_ble_eq_true rfl) (fun r_2 μ_1 => ?_)
  refine J.iald ik_1253 hC eX11_bucketMany_9 kk_116 ?_
  exact J.iret hC hr eX11_bucketMany_10
-- X11_of
theorem eX11_of_0 : DD cX11_of 0 (.aload_n 0) 1 1 := ⟨by decide +kernel, rfl⟩
theorem eX11_of_1 : DD cX11_of 1 (.getfield 34) 3 4 := ⟨by decide +kernel, rfl⟩
theorem eX11_of_4 : DD cX11_of 4 (.iload_n 1) 1 5 := ⟨by decide +kernel, rfl⟩
theorem eX11_of_5 : DD cX11_of 5 (.iload_n 2) 1 6 := ⟨by decide +kernel, rfl⟩
theorem eX11_of_6 : DD cX11_of 6 (.invokestatic 147) 3 9 := ⟨by decide +kernel, rfl⟩
theorem eX11_of_9 : DD cX11_of 9 (.iconst 1) 1 10 := ⟨by decide +kernel, rfl⟩
theorem eX11_of_10 : DD cX11_of 10 (.iadd) 1 11 := ⟨by decide +kernel, rfl⟩
theorem eX11_of_11 : DD cX11_of 11 (.iconst 4) 1 12 := ⟨by decide +kernel, rfl⟩
theorem eX11_of_12 : DD cX11_of 12 (.iload_n 3) 1 13 := ⟨by decide +kernel, rfl⟩
theorem eX11_of_13 : DD cX11_of 13 (.imul) 1 14 := ⟨by decide +kernel, rfl⟩
theorem eX11_of_14 : DD cX11_of 14 (.iadd) 1 15 := ⟨by decide +kernel, rfl⟩
theorem eX11_of_15 : DD cX11_of 15 (.iload 4) 2 17 := ⟨by decide +kernel, rfl⟩
theorem eX11_of_17 : DD cX11_of 17 (.iadd) 1 18 := ⟨by decide +kernel, rfl⟩
theorem eX11_of_18 : DD cX11_of 18 (.iaload) 1 19 := ⟨by decide +kernel, rfl⟩
theorem eX11_of_19 : DD cX11_of 19 (.ireturn) 1 20 := ⟨by decide +kernel, rfl⟩
def G_X11_of (x1 : Int32) (x2 : Int32) (x3 : Int32) (x4 : Int32) (μ : Mem) : Option (Int32 × Mem) :=
  bd (G_X11_column x1 x2 μ) (fun r_2 μ_1 => gq (inB (((r_2 + (1 : Int32)) + ((4 : Int32) * x3)) + x4) 1253) (some (rI μ_1 116 (nx (((r_2 + (1 : Int32)) + ((4 : Int32) * x3)) + x4)), μ_1)))
set_option maxHeartbeats 4000000 in
theorem c_X11_of {X : Wd} (hX : WdOk X) (x1 : Int32) (x2 : Int32) (x3 : Int32) (x4 : Int32) (μ : Mem) : CtI X yX11_of cX11_of 5 (some .int) (rmF 1 21) [.ref (xad X 107), .int x1, .int x2, .int x3, .int x4] μ (G_X11_of x1 x2 x3 x4 μ) := by
  refine CtI.of hX (plainFor_of_name (by decide)) (by exact Nat.le_of_ble_eq_true rfl) ?_
  intro C hCX hC hr
  subst hCX
  show J C (KI C) μ 0 [(0, .ref (xad (cX C) 107)), (1, .int x1), (2, .int x2), (3, .int x3), (4, .int x4)] [] _
  unfold G_X11_of
  refine J.aload_n (j := 0) hC eX11_of_0 rfl ?_
  refine gf_X11_34 (q := 116) hC eX11_of_1 kk_107 rfl ?_
  refine J.iload_n (j := 1) hC eX11_of_4 rfl ?_
  refine J.iload_n (j := 2) hC eX11_of_5 rfl ?_
  refine J.callSI (st := [.ref (xad (cX C) 116)]) hC eX11_of_6 ml_X11_147 mv_X11_column (Rle_of (Nat.le_of_ble_eq_true rfl) (Nat.le_of_ble_eq_true rfl)) (c_X11_column hC.X x1 x2 μ) rfl rfl (Nat.le_of_ble_eq_true rfl) (fun r_2 μ_1 => ?_)
  refine J.iconst hC eX11_of_9 ci_1 ?_
  refine J.iadd hC eX11_of_10 ?_
  refine J.iconst hC eX11_of_11 ci_4 ?_
  refine J.iload_n (j := 3) hC eX11_of_12 rfl ?_
  refine J.imul hC eX11_of_13 ?_
  refine J.iadd hC eX11_of_14 ?_
  refine J.iload (j := 4) hC eX11_of_15 rfl ?_
  refine J.iadd hC eX11_of_17 ?_
  refine J.iald ik_1253 hC eX11_of_18 kk_116 ?_
  exact J.iret hC hr eX11_of_19
-- X11_put
theorem eX11_put_0 : DD cX11_put 0 (.aload_n 0) 1 1 := ⟨by decide +kernel, rfl⟩
theorem eX11_put_1 : DD cX11_put 1 (.getfield 34) 3 4 := ⟨by decide +kernel, rfl⟩
theorem eX11_put_4 : DD cX11_put 4 (.iload_n 1) 1 5 := ⟨by decide +kernel, rfl⟩
theorem eX11_put_5 : DD cX11_put 5 (.iload_n 2) 1 6 := ⟨by decide +kernel, rfl⟩
theorem eX11_put_6 : DD cX11_put 6 (.invokestatic 147) 3 9 := ⟨by decide +kernel, rfl⟩
theorem eX11_put_9 : DD cX11_put 9 (.iconst 1) 1 10 := ⟨by decide +kernel, rfl⟩
theorem eX11_put_10 : DD cX11_put 10 (.iadd) 1 11 := ⟨by decide +kernel, rfl⟩
theorem eX11_put_11 : DD cX11_put 11 (.iconst 4) 1 12 := ⟨by decide +kernel, rfl⟩
theorem eX11_put_12 : DD cX11_put 12 (.iload_n 3) 1 13 := ⟨by decide +kernel, rfl⟩
theorem eX11_put_13 : DD cX11_put 13 (.imul) 1 14 := ⟨by decide +kernel, rfl⟩
theorem eX11_put_14 : DD cX11_put 14 (.iadd) 1 15 := ⟨by decide +kernel, rfl⟩
theorem eX11_put_15 : DD cX11_put 15 (.iload 4) 2 17 := ⟨by decide +kernel, rfl⟩
theorem eX11_put_17 : DD cX11_put 17 (.iadd) 1 18 := ⟨by decide +kernel, rfl⟩
theorem eX11_put_18 : DD cX11_put 18 (.iload 5) 2 20 := ⟨by decide +kernel, rfl⟩
theorem eX11_put_20 : DD cX11_put 20 (.iastore) 1 21 := ⟨by decide +kernel, rfl⟩
theorem eX11_put_21 : DD cX11_put 21 (.return_) 1 22 := ⟨by decide +kernel, rfl⟩
def G_X11_put (x1 : Int32) (x2 : Int32) (x3 : Int32) (x4 : Int32) (x5 : Int32) (μ : Mem) : Option (Unit × Mem) :=
  bd (G_X11_column x1 x2 μ) (fun r_2 μ_1 => gq (inB (((r_2 + (1 : Int32)) + ((4 : Int32) * x3)) + x4) 1253) (lb (wI μ_1 116 (nx (((r_2 + (1 : Int32)) + ((4 : Int32) * x3)) + x4)) x5) (fun μ_3 => some ((), μ_3))))
set_option maxHeartbeats 4000000 in
theorem c_X11_put {X : Wd} (hX : WdOk X) (x1 : Int32) (x2 : Int32) (x3 : Int32) (x4 : Int32) (x5 : Int32) (μ : Mem) : CtV X yX11_put cX11_put 6 none (rmF 1 21) [.ref (xad X 107), .int x1, .int x2, .int x3, .int x4, .int x5] μ (G_X11_put x1 x2 x3 x4 x5 μ) := by
  refine CtV.of hX (plainFor_of_name (by decide)) (by exact Nat.le_of_ble_eq_true rfl) ?_
  intro C hCX hC hr
  subst hCX
  show J C (KV C) μ 0 [(0, .ref (xad (cX C) 107)), (1, .int x1), (2, .int x2), (3, .int x3), (4, .int x4), (5, .int x5)] [] _
  unfold G_X11_put
  refine J.aload_n (j := 0) hC eX11_put_0 rfl ?_
  refine gf_X11_34 (q := 116) hC eX11_put_1 kk_107 rfl ?_
  refine J.iload_n (j := 1) hC eX11_put_4 rfl ?_
  refine J.iload_n (j := 2) hC eX11_put_5 rfl ?_
  refine J.callSI (st := [.ref (xad (cX C) 116)]) hC eX11_put_6 ml_X11_147 mv_X11_column (Rle_of (Nat.le_of_ble_eq_true rfl) (Nat.le_of_ble_eq_true rfl)) (c_X11_column hC.X x1 x2 μ) rfl rfl (Nat.le_of_ble_eq_true rfl) (fun r_2 μ_1 => ?_)
  refine J.iconst hC eX11_put_9 ci_1 ?_
  refine J.iadd hC eX11_put_10 ?_
  refine J.iconst hC eX11_put_11 ci_4 ?_
  refine J.iload_n (j := 3) hC eX11_put_12 rfl ?_
  refine J.imul hC eX11_put_13 ?_
  refine J.iadd hC eX11_put_14 ?_
  refine J.iload (j := 4) hC eX11_put_15 rfl ?_
  refine J.iadd hC eX11_put_17 ?_
  refine J.iload (j := 5) hC eX11_put_18 rfl ?_
  refine J.iast ik_1253 hC eX11_put_20 kk_116 (fun μ_3 => ?_)
  exact J.vret hC hr eX11_put_21
-- X11_isBook
theorem eX11_isBook_0 : DD cX11_isBook 0 (.aload_n 0) 1 1 := ⟨by decide +kernel, rfl⟩
theorem eX11_isBook_1 : DD cX11_isBook 1 (.getfield 150) 3 4 := ⟨by decide +kernel, rfl⟩
theorem eX11_isBook_4 : DB cX11_isBook 4 (.ifCond .le 7) (7) 7 11 := ⟨by decide +kernel, rfl, by decide⟩
theorem eX11_isBook_7 : DD cX11_isBook 7 (.iconst 1) 1 8 := ⟨by decide +kernel, rfl⟩
theorem eX11_isBook_8 : DB cX11_isBook 8 (.goto 4) (4) 11 12 := ⟨by decide +kernel, rfl, by decide⟩
theorem eX11_isBook_11 : DD cX11_isBook 11 (.iconst 0) 1 12 := ⟨by decide +kernel, rfl⟩
theorem eX11_isBook_12 : DD cX11_isBook 12 (.ireturn) 1 13 := ⟨by decide +kernel, rfl⟩
def G_X11_isBook  (μ : Mem) : Option (Int32 × Mem) :=
  if (rI μ 107 12) ≤ 0 then some ((0 : Int32), μ) else some ((1 : Int32), μ)
set_option maxHeartbeats 4000000 in
theorem c_X11_isBook {X : Wd} (hX : WdOk X)  (μ : Mem) : CtI X yX11_isBook cX11_isBook 1 (some .boolean) (rmF 0 0) [.ref (xad X 107)] μ (G_X11_isBook  μ) := by
  refine CtI.of hX (plainFor_of_name (by decide)) (by exact Nat.le_of_ble_eq_true rfl) ?_
  intro C hCX hC hr
  subst hCX
  show J C (KI C) μ 0 [(0, .ref (xad (cX C) 107))] [] _
  unfold G_X11_isBook
  refine J.aload_n (j := 0) hC eX11_isBook_0 rfl ?_
  refine gf_X11_150 hC eX11_isBook_1 kk_107 ?_
  refine J.if_le hC eX11_isBook_4 (fun _ => ?_) (fun _ => ?_)
  · refine J.iconst hC eX11_isBook_11 ci_0 ?_
    exact J.zretB hC hr eX11_isBook_12 rfl
  · refine J.iconst hC eX11_isBook_7 ci_1 ?_
    refine J.goto hC eX11_isBook_8 ?_
    exact J.zretB hC hr eX11_isBook_12 rfl
-- X11_isTable
theorem eX11_isTable_0 : DD cX11_isTable 0 (.iload_n 1) 1 1 := ⟨by decide +kernel, rfl⟩
theorem eX11_isTable_1 : DD cX11_isTable 1 (.i2l) 1 2 := ⟨by decide +kernel, rfl⟩
theorem eX11_isTable_2 : DD cX11_isTable 2 (.lconst 0) 1 3 := ⟨by decide +kernel, rfl⟩
theorem eX11_isTable_3 : DD cX11_isTable 3 (.aload_n 0) 1 4 := ⟨by decide +kernel, rfl⟩
theorem eX11_isTable_4 : DD cX11_isTable 4 (.getfield 150) 3 7 := ⟨by decide +kernel, rfl⟩
theorem eX11_isTable_7 : DD cX11_isTable 7 (.iconst 1) 1 8 := ⟨by decide +kernel, rfl⟩
theorem eX11_isTable_8 : DD cX11_isTable 8 (.isub) 1 9 := ⟨by decide +kernel, rfl⟩
theorem eX11_isTable_9 : DD cX11_isTable 9 (.i2l) 1 10 := ⟨by decide +kernel, rfl⟩
theorem eX11_isTable_10 : DD cX11_isTable 10 (.invokestatic 77) 3 13 := ⟨by decide +kernel, rfl⟩
theorem eX11_isTable_13 : DD cX11_isTable 13 (.ireturn) 1 14 := ⟨by decide +kernel, rfl⟩
def G_X11_isTable (x1 : Int32) (μ : Mem) : Option (Int32 × Mem) :=
  bd (G_X11_in x1.toInt64 (0 : Int64) (((rI μ 107 12) - (1 : Int32)).toInt64) μ) (fun r_2 μ_1 => gq (bB r_2) (some (r_2, μ_1)))
set_option maxHeartbeats 4000000 in
theorem c_X11_isTable {X : Wd} (hX : WdOk X) (x1 : Int32) (μ : Mem) : CtI X yX11_isTable cX11_isTable 2 (some .boolean) (rmF 1 25) [.ref (xad X 107), .int x1] μ (G_X11_isTable x1 μ) := by
  refine CtI.of hX (plainFor_of_name (by decide)) (by exact Nat.le_of_ble_eq_true rfl) ?_
  intro C hCX hC hr
  subst hCX
  show J C (KI C) μ 0 [(0, .ref (xad (cX C) 107)), (1, .int x1)] [] _
  unfold G_X11_isTable
  refine J.iload_n (j := 1) hC eX11_isTable_0 rfl ?_
  refine J.i2l hC eX11_isTable_1 ?_
  refine J.lconst hC eX11_isTable_2 cl_0 ?_
  refine J.aload_n (j := 0) hC eX11_isTable_3 rfl ?_
  refine gf_X11_150 hC eX11_isTable_4 kk_107 ?_
  refine J.iconst hC eX11_isTable_7 ci_1 ?_
  refine J.isub hC eX11_isTable_8 ?_
  refine J.i2l hC eX11_isTable_9 ?_
  refine J.callSI (st := []) hC eX11_isTable_10 ml_X11_77 mv_X11_in (Rle_of (Nat.le_of_ble_eq_true rfl) (Nat.le_of_ble_eq_true rfl)) (c_X11_in hC.X x1.toInt64 (0 : Int64) (((rI μ 107 12) - (1 : Int32)).toInt64) μ) rfl rfl (Nat.le_of_ble_eq_true rfl) (fun r_2 μ_1 => ?_)
  exact J.zret hC hr eX11_isTable_13
-- X11_isColumn
theorem eX11_isColumn_0 : DD cX11_isColumn 0 (.aload_n 0) 1 1 := ⟨by decide +kernel, rfl⟩
theorem eX11_isColumn_1 : DD cX11_isColumn 1 (.iload_n 1) 1 2 := ⟨by decide +kernel, rfl⟩
theorem eX11_isColumn_2 : DD cX11_isColumn 2 (.invokevirtual 153) 3 5 := ⟨by decide +kernel, rfl⟩
theorem eX11_isColumn_5 : DB cX11_isColumn 5 (.ifCond .eq 17) (17) 8 22 := ⟨by decide +kernel, rfl, by decide⟩
theorem eX11_isColumn_8 : DD cX11_isColumn 8 (.iload_n 2) 1 9 := ⟨by decide +kernel, rfl⟩
theorem eX11_isColumn_9 : DD cX11_isColumn 9 (.i2l) 1 10 := ⟨by decide +kernel, rfl⟩
theorem eX11_isColumn_10 : DD cX11_isColumn 10 (.lconst 0) 1 11 := ⟨by decide +kernel, rfl⟩
theorem eX11_isColumn_11 : DD cX11_isColumn 11 (.lconst 1) 1 12 := ⟨by decide +kernel, rfl⟩
theorem eX11_isColumn_12 : DD cX11_isColumn 12 (.invokestatic 77) 3 15 := ⟨by decide +kernel, rfl⟩
theorem eX11_isColumn_15 : DB cX11_isColumn 15 (.ifCond .eq 7) (7) 18 22 := ⟨by decide +kernel, rfl, by decide⟩
theorem eX11_isColumn_18 : DD cX11_isColumn 18 (.iconst 1) 1 19 := ⟨by decide +kernel, rfl⟩
theorem eX11_isColumn_19 : DB cX11_isColumn 19 (.goto 4) (4) 22 23 := ⟨by decide +kernel, rfl, by decide⟩
theorem eX11_isColumn_22 : DD cX11_isColumn 22 (.iconst 0) 1 23 := ⟨by decide +kernel, rfl⟩
theorem eX11_isColumn_23 : DD cX11_isColumn 23 (.ireturn) 1 24 := ⟨by decide +kernel, rfl⟩
def G_X11_isColumn (x1 : Int32) (x2 : Int32) (μ : Mem) : Option (Int32 × Mem) :=
  bd (G_X11_isTable x1 μ) (fun r_2 μ_1 => if r_2 = 0 then some ((0 : Int32), μ_1) else bd (G_X11_in x2.toInt64 (0 : Int64) (1 : Int64) μ_1) (fun r_4 μ_3 => if r_4 = 0 then some ((0 : Int32), μ_3) else some ((1 : Int32), μ_3)))
set_option maxHeartbeats 4000000 in
theorem c_X11_isColumn {X : Wd} (hX : WdOk X) (x1 : Int32) (x2 : Int32) (μ : Mem) : CtI X yX11_isColumn cX11_isColumn 3 (some .boolean) (rmF 2 46) [.ref (xad X 107), .int x1, .int x2] μ (G_X11_isColumn x1 x2 μ) := by
  refine CtI.of hX (plainFor_of_name (by decide)) (by exact Nat.le_of_ble_eq_true rfl) ?_
  intro C hCX hC hr
  subst hCX
  show J C (KI C) μ 0 [(0, .ref (xad (cX C) 107)), (1, .int x1), (2, .int x2)] [] _
  unfold G_X11_isColumn
  refine J.aload_n (j := 0) hC eX11_isColumn_0 rfl ?_
  refine J.iload_n (j := 1) hC eX11_isColumn_1 rfl ?_
  refine J.callVI (st := []) hC eX11_isColumn_2 kk_107 (by decide) rfl rfl ml_X11_153 mv_X11_isTable (Rle_of (Nat.le_of_ble_eq_true rfl) (Nat.le_of_ble_eq_true rfl)) (c_X11_isTable hC.X x1 μ) rfl rfl (Nat.le_of_ble_eq_true rfl) (fun r_2 μ_1 => ?_)
  refine J.if_eq hC eX11_isColumn_5 (fun _ => ?_) (fun _ => ?_)
  · refine J.iconst hC eX11_isColumn_22 ci_0 ?_
    exact J.zretB hC hr eX11_isColumn_23 rfl
  · refine J.iload_n (j := 2) hC eX11_isColumn_8 rfl ?_
    refine J.i2l hC eX11_isColumn_9 ?_
    refine J.lconst hC eX11_isColumn_10 cl_0 ?_
    refine J.lconst hC eX11_isColumn_11 cl_1 ?_
    refine J.callSI (st := []) hC eX11_isColumn_12 ml_X11_77 mv_X11_in (Rle_of (Nat.le_of_ble_eq_true rfl) (Nat.le_of_ble_eq_true rfl)) (c_X11_in hC.X x2.toInt64 (0 : Int64) (1 : Int64) μ_1) rfl rfl (Nat.le_of_ble_eq_true rfl) (fun r_4 μ_3 => ?_)
    refine J.if_eq hC eX11_isColumn_15 (fun _ => ?_) (fun _ => ?_)
    · refine J.iconst hC eX11_isColumn_22 ci_0 ?_
      exact J.zretB hC hr eX11_isColumn_23 rfl
    · refine J.iconst hC eX11_isColumn_18 ci_1 ?_
      refine J.goto hC eX11_isColumn_19 ?_
      exact J.zretB hC hr eX11_isColumn_23 rfl
-- X11_isValue
theorem eX11_isValue_0 : DD cX11_isValue 0 (.iload_n 2) 1 1 := ⟨by decide +kernel, rfl⟩
theorem eX11_isValue_1 : DD cX11_isValue 1 (.i2l) 1 2 := ⟨by decide +kernel, rfl⟩
theorem eX11_isValue_2 : DD cX11_isValue 2 (.ldc2_w 156) 3 5 := ⟨by decide +kernel, rfl⟩
theorem eX11_isValue_5 : DD cX11_isValue 5 (.aload_n 0) 1 6 := ⟨by decide +kernel, rfl⟩
theorem eX11_isValue_6 : DD cX11_isValue 6 (.getfield 25) 3 9 := ⟨by decide +kernel, rfl⟩
theorem eX11_isValue_9 : DD cX11_isValue 9 (.iload_n 1) 1 10 := ⟨by decide +kernel, rfl⟩
theorem eX11_isValue_10 : DD cX11_isValue 10 (.iaload) 1 11 := ⟨by decide +kernel, rfl⟩
theorem eX11_isValue_11 : DD cX11_isValue 11 (.iconst 1) 1 12 := ⟨by decide +kernel, rfl⟩
theorem eX11_isValue_12 : DD cX11_isValue 12 (.isub) 1 13 := ⟨by decide +kernel, rfl⟩
theorem eX11_isValue_13 : DD cX11_isValue 13 (.i2l) 1 14 := ⟨by decide +kernel, rfl⟩
theorem eX11_isValue_14 : DD cX11_isValue 14 (.invokestatic 77) 3 17 := ⟨by decide +kernel, rfl⟩
theorem eX11_isValue_17 : DD cX11_isValue 17 (.ireturn) 1 18 := ⟨by decide +kernel, rfl⟩
def G_X11_isValue (x1 : Int32) (x2 : Int32) (μ : Mem) : Option (Int32 × Mem) :=
  gq (inB x1 3) (bd (G_X11_in x2.toInt64 (-1 : Int64) (((rI μ 113 (nx x1)) - (1 : Int32)).toInt64) μ) (fun r_2 μ_1 => gq (bB r_2) (some (r_2, μ_1))))
set_option maxHeartbeats 4000000 in
theorem c_X11_isValue {X : Wd} (hX : WdOk X) (x1 : Int32) (x2 : Int32) (μ : Mem) : CtI X yX11_isValue cX11_isValue 3 (some .boolean) (rmF 1 25) [.ref (xad X 107), .int x1, .int x2] μ (G_X11_isValue x1 x2 μ) := by
  refine CtI.of hX (plainFor_of_name (by decide)) (by exact Nat.le_of_ble_eq_true rfl) ?_
  intro C hCX hC hr
  subst hCX
  show J C (KI C) μ 0 [(0, .ref (xad (cX C) 107)), (1, .int x1), (2, .int x2)] [] _
  unfold G_X11_isValue
  refine J.iload_n (j := 2) hC eX11_isValue_0 rfl ?_
  refine J.i2l hC eX11_isValue_1 ?_
  refine J.ldc2 hC eX11_isValue_2 mk_X11_156 ?_
  refine J.aload_n (j := 0) hC eX11_isValue_5 rfl ?_
  refine gf_X11_25 (q := 113) hC eX11_isValue_6 kk_107 rfl ?_
  refine J.iload_n (j := 1) hC eX11_isValue_9 rfl ?_
  refine J.iald ik_3 hC eX11_isValue_10 kk_113 ?_
  refine J.iconst hC eX11_isValue_11 ci_1 ?_
  refine J.isub hC eX11_isValue_12 ?_
  refine J.i2l hC eX11_isValue_13 ?_
  refine J.callSI (st := []) hC eX11_isValue_14 ml_X11_77 mv_X11_in (Rle_of (Nat.le_of_ble_eq_true rfl) (Nat.le_of_ble_eq_true rfl)) (c_X11_in hC.X x2.toInt64 (-1 : Int64) (((rI μ 113 (nx x1)) - (1 : Int32)).toInt64) μ) rfl rfl (Nat.le_of_ble_eq_true rfl) (fun r_2 μ_1 => ?_)
  exact J.zret hC hr eX11_isValue_17
-- X11_countAt
theorem eX11_countAt_0 : DD cX11_countAt 0 (.iconst 0) 1 1 := ⟨by decide +kernel, rfl⟩
theorem eX11_countAt_1 : DD cX11_countAt 1 (.istore 4) 2 3 := ⟨by decide +kernel, rfl⟩
theorem eX11_countAt_3 : DD cX11_countAt 3 (.iconst 0) 1 4 := ⟨by decide +kernel, rfl⟩
theorem eX11_countAt_4 : DD cX11_countAt 4 (.istore 5) 2 6 := ⟨by decide +kernel, rfl⟩
theorem eX11_countAt_6 : DD cX11_countAt 6 (.iload 5) 2 8 := ⟨by decide +kernel, rfl⟩
theorem eX11_countAt_8 : DD cX11_countAt 8 (.bipush 17) 2 10 := ⟨by decide +kernel, rfl⟩
theorem eX11_countAt_10 : DB cX11_countAt 10 (.if_icmp .ge 55) (55) 13 65 := ⟨by decide +kernel, rfl, by decide⟩
theorem eX11_countAt_13 : DD cX11_countAt 13 (.iload 5) 2 15 := ⟨by decide +kernel, rfl⟩
theorem eX11_countAt_15 : DD cX11_countAt 15 (.bipush 16) 2 17 := ⟨by decide +kernel, rfl⟩
theorem eX11_countAt_17 : DB cX11_countAt 17 (.if_icmp .ne 7) (7) 20 24 := ⟨by decide +kernel, rfl, by decide⟩
theorem eX11_countAt_20 : DD cX11_countAt 20 (.iconst (-1)) 1 21 := ⟨by decide +kernel, rfl⟩
theorem eX11_countAt_21 : DB cX11_countAt 21 (.goto 5) (5) 24 26 := ⟨by decide +kernel, rfl, by decide⟩
theorem eX11_countAt_24 : DD cX11_countAt 24 (.iload 5) 2 26 := ⟨by decide +kernel, rfl⟩
theorem eX11_countAt_26 : DD cX11_countAt 26 (.istore 6) 2 28 := ⟨by decide +kernel, rfl⟩
theorem eX11_countAt_28 : DD cX11_countAt 28 (.iload 4) 2 30 := ⟨by decide +kernel, rfl⟩
theorem eX11_countAt_30 : DD cX11_countAt 30 (.aload_n 0) 1 31 := ⟨by decide +kernel, rfl⟩
theorem eX11_countAt_31 : DD cX11_countAt 31 (.getfield 34) 3 34 := ⟨by decide +kernel, rfl⟩
theorem eX11_countAt_34 : DD cX11_countAt 34 (.iload_n 2) 1 35 := ⟨by decide +kernel, rfl⟩
theorem eX11_countAt_35 : DB cX11_countAt 35 (.ifCond .ne 13) (13) 38 48 := ⟨by decide +kernel, rfl, by decide⟩
theorem eX11_countAt_38 : DD cX11_countAt 38 (.iload_n 1) 1 39 := ⟨by decide +kernel, rfl⟩
theorem eX11_countAt_39 : DD cX11_countAt 39 (.iload_n 3) 1 40 := ⟨by decide +kernel, rfl⟩
theorem eX11_countAt_40 : DD cX11_countAt 40 (.iload 6) 2 42 := ⟨by decide +kernel, rfl⟩
theorem eX11_countAt_42 : DD cX11_countAt 42 (.invokestatic 158) 3 45 := ⟨by decide +kernel, rfl⟩
theorem eX11_countAt_45 : DB cX11_countAt 45 (.goto 10) (10) 48 55 := ⟨by decide +kernel, rfl, by decide⟩
theorem eX11_countAt_48 : DD cX11_countAt 48 (.iload_n 1) 1 49 := ⟨by decide +kernel, rfl⟩
theorem eX11_countAt_49 : DD cX11_countAt 49 (.iload 6) 2 51 := ⟨by decide +kernel, rfl⟩
theorem eX11_countAt_51 : DD cX11_countAt 51 (.iload_n 3) 1 52 := ⟨by decide +kernel, rfl⟩
theorem eX11_countAt_52 : DD cX11_countAt 52 (.invokestatic 158) 3 55 := ⟨by decide +kernel, rfl⟩
theorem eX11_countAt_55 : DD cX11_countAt 55 (.iaload) 1 56 := ⟨by decide +kernel, rfl⟩
theorem eX11_countAt_56 : DD cX11_countAt 56 (.iadd) 1 57 := ⟨by decide +kernel, rfl⟩
theorem eX11_countAt_57 : DD cX11_countAt 57 (.istore 4) 2 59 := ⟨by decide +kernel, rfl⟩
theorem eX11_countAt_59 : DD cX11_countAt 59 (.iinc 5 1) 3 62 := ⟨by decide +kernel, rfl⟩
theorem eX11_countAt_62 : DB cX11_countAt 62 (.goto (-56)) (-56) 65 6 := ⟨by decide +kernel, rfl, by decide⟩
theorem eX11_countAt_65 : DD cX11_countAt 65 (.iload 4) 2 67 := ⟨by decide +kernel, rfl⟩
theorem eX11_countAt_67 : DD cX11_countAt 67 (.ireturn) 1 68 := ⟨by decide +kernel, rfl⟩
def F_X11_countAt_55 (kc_6 : Int32 → Int32 → Int32 → Int32 → Int32 → Mem → Option (Int32 × Mem)) (x1 : Int32) (x2 : Int32) (x3 : Int32) (x5 : Int32) (xs0 : Int32) (xs2 : Int32) (μ : Mem) : Option (Int32 × Mem) :=
  gq (inB xs2 1253) (lb (xs0 + (rI μ 116 (nx xs2))) (fun x4_1 => lb (x5 + (1 : Int32)) (fun x5_2 => kc_6 x1 x2 x3 x4_1 x5_2 μ)))
set_option maxHeartbeats 4000000 in
theorem j_X11_countAt_55 {C : Cx} (hC : Ok C cX11_countAt 7 RX11 (rmF 1 22)) (hr : (cT C).sig.returnType = (some .int)) (kc_6 : Int32 → Int32 → Int32 → Int32 → Int32 → Mem → Option (Int32 × Mem)) (hk_6 : ∀ (x1 : Int32) (x2 : Int32) (x3 : Int32) (x4 : Int32) (x5 : Int32) (μ : Mem), J C (KI C) μ 6 [(0, .ref (xad (cX C) 107)), (1, .int x1), (2, .int x2), (3, .int x3), (4, .int x4), (5, .int x5)] [] (kc_6 x1 x2 x3 x4 x5 μ)) (x1 : Int32) (x2 : Int32) (x3 : Int32) (x5 : Int32) (xs0 : Int32) (xs2 : Int32) (μ : Mem) : J C (KI C) μ 55 [(0, .ref (xad (cX C) 107)), (1, .int x1), (2, .int x2), (3, .int x3), (5, .int x5)] [.int xs2, .ref (xad (cX C) 116), .int xs0] (F_X11_countAt_55 kc_6 x1 x2 x3 x5 xs0 xs2 μ) := by
  unfold F_X11_countAt_55
  refine J.iald ik_1253 hC eX11_countAt_55 kk_116 ?_
  refine J.iadd hC eX11_countAt_56 ?_
  refine J.topi (fun x4_1 => ?_)
  refine J.istore [(4, .int x4_1), (0, .ref (xad (cX C) 107)), (1, .int x1), (2, .int x2), (3, .int x3), (5, .int x5)] hC eX11_countAt_57 (by decide) rfl ?_
  refine J.iinc (j := 5) (fun x5_2 => [(5, .int x5_2), (4, .int x4_1), (0, .ref (xad (cX C) 107)), (1, .int x1), (2, .int x2), (3, .int x3)]) hC eX11_countAt_59 rfl ci_1 (by decide) (fun _ => rfl) (fun x5_2 => ?_)
  refine J.goto hC eX11_countAt_62 ?_
  refine J.sub [2, 3, 4, 5, 1, 0] rfl ?_
  exact hk_6 x1 x2 x3 x4_1 x5_2 μ
def F_X11_countAt_26 (kc_6 : Int32 → Int32 → Int32 → Int32 → Int32 → Mem → Option (Int32 × Mem)) (x1 : Int32) (x2 : Int32) (x3 : Int32) (x4 : Int32) (x5 : Int32) (xs0 : Int32) (μ : Mem) : Option (Int32 × Mem) :=
  if x2 = 0 then bd (G_X11_place x1 x3 xs0 μ) (fun r_2 μ_1 => F_X11_countAt_55 kc_6 x1 x2 x3 x5 x4 r_2 μ_1) else bd (G_X11_place x1 xs0 x3 μ) (fun r_4 μ_3 => F_X11_countAt_55 kc_6 x1 x2 x3 x5 x4 r_4 μ_3)
set_option maxHeartbeats 4000000 in
theorem j_X11_countAt_26 {C : Cx} (hC : Ok C cX11_countAt 7 RX11 (rmF 1 22)) (hr : (cT C).sig.returnType = (some .int)) (kc_6 : Int32 → Int32 → Int32 → Int32 → Int32 → Mem → Option (Int32 × Mem)) (hk_6 : ∀ (x1 : Int32) (x2 : Int32) (x3 : Int32) (x4 : Int32) (x5 : Int32) (μ : Mem), J C (KI C) μ 6 [(0, .ref (xad (cX C) 107)), (1, .int x1), (2, .int x2), (3, .int x3), (4, .int x4), (5, .int x5)] [] (kc_6 x1 x2 x3 x4 x5 μ)) (x1 : Int32) (x2 : Int32) (x3 : Int32) (x4 : Int32) (x5 : Int32) (xs0 : Int32) (μ : Mem) : J C (KI C) μ 26 [(0, .ref (xad (cX C) 107)), (1, .int x1), (2, .int x2), (3, .int x3), (4, .int x4), (5, .int x5)] [.int xs0] (F_X11_countAt_26 kc_6 x1 x2 x3 x4 x5 xs0 μ) := by
  unfold F_X11_countAt_26
  refine J.istore [(6, .int xs0), (0, .ref (xad (cX C) 107)), (1, .int x1), (2, .int x2), (3, .int x3), (4, .int x4), (5, .int x5)] hC eX11_countAt_26 (by decide) rfl ?_
  refine J.iload (j := 5) hC eX11_countAt_28 rfl ?_
  refine J.aload_n (j := 1) hC eX11_countAt_30 rfl ?_
  refine gf_X11_34 (q := 116) hC eX11_countAt_31 kk_107 rfl ?_
  refine J.iload_n (j := 3) hC eX11_countAt_34 rfl ?_
  refine J.if_ne hC eX11_countAt_35 (fun _ => ?_) (fun _ => ?_)
  · refine J.iload_n (j := 2) hC eX11_countAt_38 rfl ?_
    refine J.iload_n (j := 4) hC eX11_countAt_39 rfl ?_
    refine J.iload (j := 0) hC eX11_countAt_40 rfl ?_
    refine J.callSI (st := [.ref (xad (cX C) 116), .int x4]) hC eX11_countAt_42 ml_X11_158 mv_X11_place (Rle_of (Nat.le_of_ble_eq_true rfl) (Nat.le_of_ble_eq_true rfl)) (c_X11_place hC.X x1 x3 xs0 μ) rfl rfl (Nat.le_of_ble_eq_true rfl) (fun r_2 μ_1 => ?_)
    refine J.goto hC eX11_countAt_45 ?_
    refine J.sub [1, 2, 3, 4, 6] rfl ?_
    exact j_X11_countAt_55 hC hr kc_6 hk_6 x1 x2 x3 x5 x4 r_2 μ_1
  · refine J.iload_n (j := 2) hC eX11_countAt_48 rfl ?_
    refine J.iload (j := 0) hC eX11_countAt_49 rfl ?_
    refine J.iload_n (j := 4) hC eX11_countAt_51 rfl ?_
    refine J.callSI (st := [.ref (xad (cX C) 116), .int x4]) hC eX11_countAt_52 ml_X11_158 mv_X11_place (Rle_of (Nat.le_of_ble_eq_true rfl) (Nat.le_of_ble_eq_true rfl)) (c_X11_place hC.X x1 xs0 x3 μ) rfl rfl (Nat.le_of_ble_eq_true rfl) (fun r_4 μ_3 => ?_)
    refine J.sub [1, 2, 3, 4, 6] rfl ?_
    exact j_X11_countAt_55 hC hr kc_6 hk_6 x1 x2 x3 x5 x4 r_4 μ_3
def L_X11_countAt_6 : Nat → Int32 → Int32 → Int32 → Int32 → Int32 → Mem → Option (Int32 × Mem)
  | 0, _, _, _, _, _, _ => none
  | n + 1, x1, x2, x3, x4, x5, μ => if (17 : Int32) ≤ x5 then some (x4, μ) else if x5 = (16 : Int32) then F_X11_countAt_26 (L_X11_countAt_6  n) x1 x2 x3 x4 x5 (-1 : Int32) μ else F_X11_countAt_26 (L_X11_countAt_6  n) x1 x2 x3 x4 x5 x5 μ
set_option maxHeartbeats 4000000 in
theorem j_X11_countAt_6 {C : Cx} (hC : Ok C cX11_countAt 7 RX11 (rmF 1 22)) (hr : (cT C).sig.returnType = (some .int)) : ∀ (n : Nat) (x1 : Int32) (x2 : Int32) (x3 : Int32) (x4 : Int32) (x5 : Int32) (μ : Mem), J C (KI C) μ 6 [(0, .ref (xad (cX C) 107)), (1, .int x1), (2, .int x2), (3, .int x3), (4, .int x4), (5, .int x5)] [] (L_X11_countAt_6  n x1 x2 x3 x4 x5 μ) := by
  intro n
  induction n with
  | zero => intros; exact J.no
  | succ n ih =>
    intro x1 x2 x3 x4 x5 μ
    rw [L_X11_countAt_6]
    refine J.iload (j := 5) hC eX11_countAt_6 rfl ?_
    refine J.bipush hC eX11_countAt_8 cb_17 ?_
    refine J.icmp_ge hC eX11_countAt_10 (fun _ => ?_) (fun _ => ?_)
    · refine J.iload (j := 4) hC eX11_countAt_65 rfl ?_
      exact J.iret hC hr eX11_countAt_67
    · refine J.iload (j := 5) hC eX11_countAt_13 rfl ?_
      refine J.bipush hC eX11_countAt_15 cb_16 ?_
      refine J.icmp_ne hC eX11_countAt_17 (fun _ => ?_) (fun _ => ?_)
      · refine J.iconst hC eX11_countAt_20 ci_m1 ?_
        refine J.goto hC eX11_countAt_21 ?_
        refine J.sub [0, 1, 2, 3, 4, 5] rfl ?_
        exact j_X11_countAt_26 hC hr (L_X11_countAt_6  n) ih x1 x2 x3 x4 x5 (-1 : Int32) μ
      · refine J.iload (j := 5) hC eX11_countAt_24 rfl ?_
        refine J.sub [0, 1, 2, 3, 4, 5] rfl ?_
        exact j_X11_countAt_26 hC hr (L_X11_countAt_6  n) ih x1 x2 x3 x4 x5 x5 μ
def G_X11_countAt (x1 : Int32) (x2 : Int32) (x3 : Int32) (μ : Mem) : Option (Int32 × Mem) :=
  L_X11_countAt_6  100000 x1 x2 x3 (0 : Int32) (0 : Int32) μ
set_option maxHeartbeats 4000000 in
theorem c_X11_countAt {X : Wd} (hX : WdOk X) (x1 : Int32) (x2 : Int32) (x3 : Int32) (μ : Mem) : CtI X yX11_countAt cX11_countAt 7 (some .int) (rmF 1 22) [.ref (xad X 107), .int x1, .int x2, .int x3] μ (G_X11_countAt x1 x2 x3 μ) := by
  refine CtI.of hX (plainFor_of_name (by decide)) (by exact Nat.le_of_ble_eq_true rfl) ?_
  intro C hCX hC hr
  subst hCX
  show J C (KI C) μ 0 [(0, .ref (xad (cX C) 107)), (1, .int x1), (2, .int x2), (3, .int x3)] [] _
  unfold G_X11_countAt
  refine J.iconst hC eX11_countAt_0 ci_0 ?_
  refine J.istore [(4, .int (0 : Int32)), (0, .ref (xad (cX C) 107)), (1, .int x1), (2, .int x2), (3, .int x3)] hC eX11_countAt_1 (by decide) rfl ?_
  refine J.iconst hC eX11_countAt_3 ci_0 ?_
  refine J.istore [(5, .int (0 : Int32)), (4, .int (0 : Int32)), (0, .ref (xad (cX C) 107)), (1, .int x1), (2, .int x2), (3, .int x3)] hC eX11_countAt_4 (by decide) rfl ?_
  refine J.sub [2, 3, 4, 5, 1, 0] rfl ?_
  exact j_X11_countAt_6 hC hr  100000 x1 x2 x3 (0 : Int32) (0 : Int32) μ
-- X11_rowsOf
theorem eX11_rowsOf_0 : DD cX11_rowsOf 0 (.iconst 0) 1 1 := ⟨by decide +kernel, rfl⟩
theorem eX11_rowsOf_1 : DD cX11_rowsOf 1 (.istore_n 2) 1 2 := ⟨by decide +kernel, rfl⟩
theorem eX11_rowsOf_2 : DD cX11_rowsOf 2 (.iconst 0) 1 3 := ⟨by decide +kernel, rfl⟩
theorem eX11_rowsOf_3 : DD cX11_rowsOf 3 (.istore_n 3) 1 4 := ⟨by decide +kernel, rfl⟩
theorem eX11_rowsOf_4 : DD cX11_rowsOf 4 (.iload_n 3) 1 5 := ⟨by decide +kernel, rfl⟩
theorem eX11_rowsOf_5 : DD cX11_rowsOf 5 (.sipush 289) 3 8 := ⟨by decide +kernel, rfl⟩
theorem eX11_rowsOf_8 : DB cX11_rowsOf 8 (.if_icmp .ge 24) (24) 11 32 := ⟨by decide +kernel, rfl, by decide⟩
theorem eX11_rowsOf_11 : DD cX11_rowsOf 11 (.iload_n 2) 1 12 := ⟨by decide +kernel, rfl⟩
theorem eX11_rowsOf_12 : DD cX11_rowsOf 12 (.aload_n 0) 1 13 := ⟨by decide +kernel, rfl⟩
theorem eX11_rowsOf_13 : DD cX11_rowsOf 13 (.getfield 34) 3 16 := ⟨by decide +kernel, rfl⟩
theorem eX11_rowsOf_16 : DD cX11_rowsOf 16 (.sipush 357) 3 19 := ⟨by decide +kernel, rfl⟩
theorem eX11_rowsOf_19 : DD cX11_rowsOf 19 (.iload_n 1) 1 20 := ⟨by decide +kernel, rfl⟩
theorem eX11_rowsOf_20 : DD cX11_rowsOf 20 (.imul) 1 21 := ⟨by decide +kernel, rfl⟩
theorem eX11_rowsOf_21 : DD cX11_rowsOf 21 (.iload_n 3) 1 22 := ⟨by decide +kernel, rfl⟩
theorem eX11_rowsOf_22 : DD cX11_rowsOf 22 (.iadd) 1 23 := ⟨by decide +kernel, rfl⟩
theorem eX11_rowsOf_23 : DD cX11_rowsOf 23 (.iaload) 1 24 := ⟨by decide +kernel, rfl⟩
theorem eX11_rowsOf_24 : DD cX11_rowsOf 24 (.iadd) 1 25 := ⟨by decide +kernel, rfl⟩
theorem eX11_rowsOf_25 : DD cX11_rowsOf 25 (.istore_n 2) 1 26 := ⟨by decide +kernel, rfl⟩
theorem eX11_rowsOf_26 : DD cX11_rowsOf 26 (.iinc 3 1) 3 29 := ⟨by decide +kernel, rfl⟩
theorem eX11_rowsOf_29 : DB cX11_rowsOf 29 (.goto (-25)) (-25) 32 4 := ⟨by decide +kernel, rfl, by decide⟩
theorem eX11_rowsOf_32 : DD cX11_rowsOf 32 (.iload_n 2) 1 33 := ⟨by decide +kernel, rfl⟩
theorem eX11_rowsOf_33 : DD cX11_rowsOf 33 (.ireturn) 1 34 := ⟨by decide +kernel, rfl⟩
def L_X11_rowsOf_4 : Nat → Int32 → Int32 → Int32 → Mem → Option (Int32 × Mem)
  | 0, _, _, _, _ => none
  | n + 1, x1, x2, x3, μ => if (289 : Int32) ≤ x3 then some (x2, μ) else gq (inB (((357 : Int32) * x1) + x3) 1253) (lb (x2 + (rI μ 116 (nx (((357 : Int32) * x1) + x3)))) (fun x2_1 => lb (x3 + (1 : Int32)) (fun x3_2 => L_X11_rowsOf_4  n x1 x2_1 x3_2 μ)))
set_option maxHeartbeats 4000000 in
theorem j_X11_rowsOf_4 {C : Cx} (hC : Ok C cX11_rowsOf 4 RX11 (rmF 0 0)) (hr : (cT C).sig.returnType = (some .int)) : ∀ (n : Nat) (x1 : Int32) (x2 : Int32) (x3 : Int32) (μ : Mem), J C (KI C) μ 4 [(0, .ref (xad (cX C) 107)), (1, .int x1), (2, .int x2), (3, .int x3)] [] (L_X11_rowsOf_4  n x1 x2 x3 μ) := by
  intro n
  induction n with
  | zero => intros; exact J.no
  | succ n ih =>
    intro x1 x2 x3 μ
    rw [L_X11_rowsOf_4]
    refine J.iload_n (j := 3) hC eX11_rowsOf_4 rfl ?_
    refine J.sipush hC eX11_rowsOf_5 cs_289 ?_
    refine J.icmp_ge hC eX11_rowsOf_8 (fun _ => ?_) (fun _ => ?_)
    · refine J.iload_n (j := 2) hC eX11_rowsOf_32 rfl ?_
      exact J.iret hC hr eX11_rowsOf_33
    · refine J.iload_n (j := 2) hC eX11_rowsOf_11 rfl ?_
      refine J.aload_n (j := 0) hC eX11_rowsOf_12 rfl ?_
      refine gf_X11_34 (q := 116) hC eX11_rowsOf_13 kk_107 rfl ?_
      refine J.sipush hC eX11_rowsOf_16 cs_357 ?_
      refine J.iload_n (j := 1) hC eX11_rowsOf_19 rfl ?_
      refine J.imul hC eX11_rowsOf_20 ?_
      refine J.iload_n (j := 3) hC eX11_rowsOf_21 rfl ?_
      refine J.iadd hC eX11_rowsOf_22 ?_
      refine J.iald ik_1253 hC eX11_rowsOf_23 kk_116 ?_
      refine J.iadd hC eX11_rowsOf_24 ?_
      refine J.topi (fun x2_1 => ?_)
      refine J.istore_n [(2, .int x2_1), (0, .ref (xad (cX C) 107)), (1, .int x1), (3, .int x3)] hC eX11_rowsOf_25 (by decide) rfl ?_
      refine J.iinc (j := 3) (fun x3_2 => [(3, .int x3_2), (2, .int x2_1), (0, .ref (xad (cX C) 107)), (1, .int x1)]) hC eX11_rowsOf_26 rfl ci_1 (by decide) (fun _ => rfl) (fun x3_2 => ?_)
      refine J.goto hC eX11_rowsOf_29 ?_
      refine J.sub [2, 3, 1, 0] rfl ?_
      exact ih x1 x2_1 x3_2 μ
def G_X11_rowsOf (x1 : Int32) (μ : Mem) : Option (Int32 × Mem) :=
  L_X11_rowsOf_4  100000 x1 (0 : Int32) (0 : Int32) μ
set_option maxHeartbeats 4000000 in
theorem c_X11_rowsOf {X : Wd} (hX : WdOk X) (x1 : Int32) (μ : Mem) : CtI X yX11_rowsOf cX11_rowsOf 4 (some .int) (rmF 0 0) [.ref (xad X 107), .int x1] μ (G_X11_rowsOf x1 μ) := by
  refine CtI.of hX (plainFor_of_name (by decide)) (by exact Nat.le_of_ble_eq_true rfl) ?_
  intro C hCX hC hr
  subst hCX
  show J C (KI C) μ 0 [(0, .ref (xad (cX C) 107)), (1, .int x1)] [] _
  unfold G_X11_rowsOf
  refine J.iconst hC eX11_rowsOf_0 ci_0 ?_
  refine J.istore_n [(2, .int (0 : Int32)), (0, .ref (xad (cX C) 107)), (1, .int x1)] hC eX11_rowsOf_1 (by decide) rfl ?_
  refine J.iconst hC eX11_rowsOf_2 ci_0 ?_
  refine J.istore_n [(3, .int (0 : Int32)), (2, .int (0 : Int32)), (0, .ref (xad (cX C) 107)), (1, .int x1)] hC eX11_rowsOf_3 (by decide) rfl ?_
  refine J.sub [2, 3, 1, 0] rfl ?_
  exact j_X11_rowsOf_4 hC hr  100000 x1 (0 : Int32) (0 : Int32) μ
-- X11_rowsOfAll
theorem eX11_rowsOfAll_0 : DD cX11_rowsOfAll 0 (.iconst 0) 1 1 := ⟨by decide +kernel, rfl⟩
theorem eX11_rowsOfAll_1 : DD cX11_rowsOfAll 1 (.istore_n 1) 1 2 := ⟨by decide +kernel, rfl⟩
theorem eX11_rowsOfAll_2 : DD cX11_rowsOfAll 2 (.iconst 0) 1 3 := ⟨by decide +kernel, rfl⟩
theorem eX11_rowsOfAll_3 : DD cX11_rowsOfAll 3 (.istore_n 2) 1 4 := ⟨by decide +kernel, rfl⟩
theorem eX11_rowsOfAll_4 : DD cX11_rowsOfAll 4 (.iload_n 2) 1 5 := ⟨by decide +kernel, rfl⟩
theorem eX11_rowsOfAll_5 : DD cX11_rowsOfAll 5 (.aload_n 0) 1 6 := ⟨by decide +kernel, rfl⟩
theorem eX11_rowsOfAll_6 : DD cX11_rowsOfAll 6 (.getfield 150) 3 9 := ⟨by decide +kernel, rfl⟩
theorem eX11_rowsOfAll_9 : DB cX11_rowsOfAll 9 (.if_icmp .ge 17) (17) 12 26 := ⟨by decide +kernel, rfl, by decide⟩
theorem eX11_rowsOfAll_12 : DD cX11_rowsOfAll 12 (.iload_n 1) 1 13 := ⟨by decide +kernel, rfl⟩
theorem eX11_rowsOfAll_13 : DD cX11_rowsOfAll 13 (.aload_n 0) 1 14 := ⟨by decide +kernel, rfl⟩
theorem eX11_rowsOfAll_14 : DD cX11_rowsOfAll 14 (.iload_n 2) 1 15 := ⟨by decide +kernel, rfl⟩
theorem eX11_rowsOfAll_15 : DD cX11_rowsOfAll 15 (.invokevirtual 161) 3 18 := ⟨by decide +kernel, rfl⟩
theorem eX11_rowsOfAll_18 : DD cX11_rowsOfAll 18 (.iadd) 1 19 := ⟨by decide +kernel, rfl⟩
theorem eX11_rowsOfAll_19 : DD cX11_rowsOfAll 19 (.istore_n 1) 1 20 := ⟨by decide +kernel, rfl⟩
theorem eX11_rowsOfAll_20 : DD cX11_rowsOfAll 20 (.iinc 2 1) 3 23 := ⟨by decide +kernel, rfl⟩
theorem eX11_rowsOfAll_23 : DB cX11_rowsOfAll 23 (.goto (-19)) (-19) 26 4 := ⟨by decide +kernel, rfl, by decide⟩
theorem eX11_rowsOfAll_26 : DD cX11_rowsOfAll 26 (.iload_n 1) 1 27 := ⟨by decide +kernel, rfl⟩
theorem eX11_rowsOfAll_27 : DD cX11_rowsOfAll 27 (.ireturn) 1 28 := ⟨by decide +kernel, rfl⟩
def L_X11_rowsOfAll_4 : Nat → Int32 → Int32 → Mem → Option (Int32 × Mem)
  | 0, _, _, _ => none
  | n + 1, x1, x2, μ => if (rI μ 107 12) ≤ x2 then some (x1, μ) else bd (G_X11_rowsOf x2 μ) (fun r_2 μ_1 => lb (x1 + r_2) (fun x1_3 => lb (x2 + (1 : Int32)) (fun x2_4 => L_X11_rowsOfAll_4  n x1_3 x2_4 μ_1)))
set_option maxHeartbeats 4000000 in
theorem j_X11_rowsOfAll_4 {C : Cx} (hC : Ok C cX11_rowsOfAll 3 RX11 (rmF 1 23)) (hr : (cT C).sig.returnType = (some .int)) : ∀ (n : Nat) (x1 : Int32) (x2 : Int32) (μ : Mem), J C (KI C) μ 4 [(0, .ref (xad (cX C) 107)), (1, .int x1), (2, .int x2)] [] (L_X11_rowsOfAll_4  n x1 x2 μ) := by
  intro n
  induction n with
  | zero => intros; exact J.no
  | succ n ih =>
    intro x1 x2 μ
    rw [L_X11_rowsOfAll_4]
    refine J.iload_n (j := 2) hC eX11_rowsOfAll_4 rfl ?_
    refine J.aload_n (j := 0) hC eX11_rowsOfAll_5 rfl ?_
    refine gf_X11_150 hC eX11_rowsOfAll_6 kk_107 ?_
    refine J.icmp_ge hC eX11_rowsOfAll_9 (fun _ => ?_) (fun _ => ?_)
    · refine J.iload_n (j := 1) hC eX11_rowsOfAll_26 rfl ?_
      exact J.iret hC hr eX11_rowsOfAll_27
    · refine J.iload_n (j := 1) hC eX11_rowsOfAll_12 rfl ?_
      refine J.aload_n (j := 0) hC eX11_rowsOfAll_13 rfl ?_
      refine J.iload_n (j := 2) hC eX11_rowsOfAll_14 rfl ?_
      refine J.callVI (st := [.int x1]) hC eX11_rowsOfAll_15 kk_107 (by decide) rfl rfl ml_X11_161 mv_X11_rowsOf (Rle_of (Nat.le_of_ble_eq_true rfl) (Nat.le_of_ble_eq_true rfl)) (c_X11_rowsOf hC.X x2 μ) rfl rfl (Nat.le_of_ble_eq_true rfl) (fun r_2 μ_1 => ?_)
      refine J.iadd hC eX11_rowsOfAll_18 ?_
      refine J.topi (fun x1_3 => ?_)
      refine J.istore_n [(1, .int x1_3), (0, .ref (xad (cX C) 107)), (2, .int x2)] hC eX11_rowsOfAll_19 (by decide) rfl ?_
      refine J.iinc (j := 2) (fun x2_4 => [(2, .int x2_4), (1, .int x1_3), (0, .ref (xad (cX C) 107))]) hC eX11_rowsOfAll_20 rfl ci_1 (by decide) (fun _ => rfl) (fun x2_4 => ?_)
      refine J.goto hC eX11_rowsOfAll_23 ?_
      refine J.sub [2, 1, 0] rfl ?_
      exact ih x1_3 x2_4 μ_1
def G_X11_rowsOfAll  (μ : Mem) : Option (Int32 × Mem) :=
  L_X11_rowsOfAll_4  100000 (0 : Int32) (0 : Int32) μ
set_option maxHeartbeats 4000000 in
theorem c_X11_rowsOfAll {X : Wd} (hX : WdOk X)  (μ : Mem) : CtI X yX11_rowsOfAll cX11_rowsOfAll 3 (some .int) (rmF 1 23) [.ref (xad X 107)] μ (G_X11_rowsOfAll  μ) := by
  refine CtI.of hX (plainFor_of_name (by decide)) (by exact Nat.le_of_ble_eq_true rfl) ?_
  intro C hCX hC hr
  subst hCX
  show J C (KI C) μ 0 [(0, .ref (xad (cX C) 107))] [] _
  unfold G_X11_rowsOfAll
  refine J.iconst hC eX11_rowsOfAll_0 ci_0 ?_
  refine J.istore_n [(1, .int (0 : Int32)), (0, .ref (xad (cX C) 107))] hC eX11_rowsOfAll_1 (by decide) rfl ?_
  refine J.iconst hC eX11_rowsOfAll_2 ci_0 ?_
  refine J.istore_n [(2, .int (0 : Int32)), (1, .int (0 : Int32)), (0, .ref (xad (cX C) 107))] hC eX11_rowsOfAll_3 (by decide) rfl ?_
  refine J.sub [2, 1, 0] rfl ?_
  exact j_X11_rowsOfAll_4 hC hr  100000 (0 : Int32) (0 : Int32) μ
-- X11_layCounts
theorem eX11_layCounts_0 : DD cX11_layCounts 0 (.aload_n 0) 1 1 := ⟨by decide +kernel, rfl⟩
theorem eX11_layCounts_1 : DD cX11_layCounts 1 (.aload_n 0) 1 2 := ⟨by decide +kernel, rfl⟩
theorem eX11_layCounts_2 : DD cX11_layCounts 2 (.getfield 25) 3 5 := ⟨by decide +kernel, rfl⟩
theorem eX11_layCounts_5 : DD cX11_layCounts 5 (.iload_n 1) 1 6 := ⟨by decide +kernel, rfl⟩
theorem eX11_layCounts_6 : DD cX11_layCounts 6 (.iaload) 1 7 := ⟨by decide +kernel, rfl⟩
theorem eX11_layCounts_7 : DD cX11_layCounts 7 (.putfield 164) 3 10 := ⟨by decide +kernel, rfl⟩
theorem eX11_layCounts_10 : DD cX11_layCounts 10 (.iconst 0) 1 11 := ⟨by decide +kernel, rfl⟩
theorem eX11_layCounts_11 : DD cX11_layCounts 11 (.istore_n 3) 1 12 := ⟨by decide +kernel, rfl⟩
theorem eX11_layCounts_12 : DD cX11_layCounts 12 (.iload_n 3) 1 13 := ⟨by decide +kernel, rfl⟩
theorem eX11_layCounts_13 : DD cX11_layCounts 13 (.aload_n 0) 1 14 := ⟨by decide +kernel, rfl⟩
theorem eX11_layCounts_14 : DD cX11_layCounts 14 (.getfield 164) 3 17 := ⟨by decide +kernel, rfl⟩
theorem eX11_layCounts_17 : DB cX11_layCounts 17 (.if_icmp .ge 22) (22) 20 39 := ⟨by decide +kernel, rfl, by decide⟩
theorem eX11_layCounts_20 : DD cX11_layCounts 20 (.aload_n 0) 1 21 := ⟨by decide +kernel, rfl⟩
theorem eX11_layCounts_21 : DD cX11_layCounts 21 (.getfield 40) 3 24 := ⟨by decide +kernel, rfl⟩
theorem eX11_layCounts_24 : DD cX11_layCounts 24 (.iload_n 3) 1 25 := ⟨by decide +kernel, rfl⟩
theorem eX11_layCounts_25 : DD cX11_layCounts 25 (.aload_n 0) 1 26 := ⟨by decide +kernel, rfl⟩
theorem eX11_layCounts_26 : DD cX11_layCounts 26 (.iload_n 1) 1 27 := ⟨by decide +kernel, rfl⟩
theorem eX11_layCounts_27 : DD cX11_layCounts 27 (.iload_n 2) 1 28 := ⟨by decide +kernel, rfl⟩
theorem eX11_layCounts_28 : DD cX11_layCounts 28 (.iload_n 3) 1 29 := ⟨by decide +kernel, rfl⟩
theorem eX11_layCounts_29 : DD cX11_layCounts 29 (.invokevirtual 167) 3 32 := ⟨by decide +kernel, rfl⟩
theorem eX11_layCounts_32 : DD cX11_layCounts 32 (.iastore) 1 33 := ⟨by decide +kernel, rfl⟩
theorem eX11_layCounts_33 : DD cX11_layCounts 33 (.iinc 3 1) 3 36 := ⟨by decide +kernel, rfl⟩
theorem eX11_layCounts_36 : DB cX11_layCounts 36 (.goto (-24)) (-24) 39 12 := ⟨by decide +kernel, rfl, by decide⟩
theorem eX11_layCounts_39 : DD cX11_layCounts 39 (.return_) 1 40 := ⟨by decide +kernel, rfl⟩
def L_X11_layCounts_12 : Nat → Int32 → Int32 → Int32 → Mem → Option (Unit × Mem)
  | 0, _, _, _, _ => none
  | n + 1, x1, x2, x3, μ => if (rI μ 107 19) ≤ x3 then some ((), μ) else bd (G_X11_countAt x1 x2 x3 μ) (fun r_2 μ_1 => gq (inB x3 16) (lb (wI μ_1 118 (nx x3) r_2) (fun μ_3 => lb (x3 + (1 : Int32)) (fun x3_4 => L_X11_layCounts_12  n x1 x2 x3_4 μ_3))))
set_option maxHeartbeats 4000000 in
theorem j_X11_layCounts_12 {C : Cx} (hC : Ok C cX11_layCounts 4 RX11 (rmF 2 48)) (hr : (cT C).sig.returnType = none) : ∀ (n : Nat) (x1 : Int32) (x2 : Int32) (x3 : Int32) (μ : Mem), J C (KV C) μ 12 [(0, .ref (xad (cX C) 107)), (1, .int x1), (2, .int x2), (3, .int x3)] [] (L_X11_layCounts_12  n x1 x2 x3 μ) := by
  intro n
  induction n with
  | zero => intros; exact J.no
  | succ n ih =>
    intro x1 x2 x3 μ
    rw [L_X11_layCounts_12]
    refine J.iload_n (j := 3) hC eX11_layCounts_12 rfl ?_
    refine J.aload_n (j := 0) hC eX11_layCounts_13 rfl ?_
    refine gf_X11_164 hC eX11_layCounts_14 kk_107 ?_
    refine J.icmp_ge hC eX11_layCounts_17 (fun _ => ?_) (fun _ => ?_)
    · exact J.vret hC hr eX11_layCounts_39
    · refine J.aload_n (j := 0) hC eX11_layCounts_20 rfl ?_
      refine gf_X11_40 (q := 118) hC eX11_layCounts_21 kk_107 rfl ?_
      refine J.iload_n (j := 3) hC eX11_layCounts_24 rfl ?_
      refine J.aload_n (j := 0) hC eX11_layCounts_25 rfl ?_
      refine J.iload_n (j := 1) hC eX11_layCounts_26 rfl ?_
      refine J.iload_n (j := 2) hC eX11_layCounts_27 rfl ?_
      refine J.iload_n (j := 3) hC eX11_layCounts_28 rfl ?_
      refine J.callVI (st := [.int x3, .ref (xad (cX C) 118)]) hC eX11_layCounts_29 kk_107 (by decide) rfl rfl ml_X11_167 mv_X11_countAt (Rle_of (Nat.le_of_ble_eq_true rfl) (Nat.le_of_ble_eq_true rfl)) (c_X11_countAt hC.X x1 x2 x3 μ) rfl rfl (Nat.le_of_ble_eq_true rfl) (fun r_2 μ_1 => ?_)
      refine J.iast ik_16 hC eX11_layCounts_32 kk_118 (fun μ_3 => ?_)
      refine J.iinc (j := 3) (fun x3_4 => [(3, .int x3_4), (0, .ref (xad (cX C) 107)), (1, .int x1), (2, .int x2)]) hC eX11_layCounts_33 rfl ci_1 (by decide) (fun _ => rfl) (fun x3_4 => ?_)
      refine J.goto hC eX11_layCounts_36 ?_
      refine J.sub [1, 2, 3, 0] rfl ?_
      exact ih x1 x2 x3_4 μ_3
def G_X11_layCounts (x1 : Int32) (x2 : Int32) (μ : Mem) : Option (Unit × Mem) :=
  gq (inB x1 3) (lb (wI μ 107 19 (rI μ 113 (nx x1))) (fun μ_1 => L_X11_layCounts_12  100000 x1 x2 (0 : Int32) μ_1))
set_option maxHeartbeats 4000000 in
theorem c_X11_layCounts {X : Wd} (hX : WdOk X) (x1 : Int32) (x2 : Int32) (μ : Mem) : CtV X yX11_layCounts cX11_layCounts 4 none (rmF 2 48) [.ref (xad X 107), .int x1, .int x2] μ (G_X11_layCounts x1 x2 μ) := by
  refine CtV.of hX (plainFor_of_name (by decide)) (by exact Nat.le_of_ble_eq_true rfl) ?_
  intro C hCX hC hr
  subst hCX
  show J C (KV C) μ 0 [(0, .ref (xad (cX C) 107)), (1, .int x1), (2, .int x2)] [] _
  unfold G_X11_layCounts
  refine J.aload_n (j := 0) hC eX11_layCounts_0 rfl ?_
  refine J.aload_n (j := 0) hC eX11_layCounts_1 rfl ?_
  refine gf_X11_25 (q := 113) hC eX11_layCounts_2 kk_107 rfl ?_
  refine J.iload_n (j := 1) hC eX11_layCounts_5 rfl ?_
  refine J.iald ik_3 hC eX11_layCounts_6 kk_113 ?_
  refine pf_X11_164 hC eX11_layCounts_7 kk_107 (fun μ_1 => ?_)
  refine J.iconst hC eX11_layCounts_10 ci_0 ?_
  refine J.istore_n [(3, .int (0 : Int32)), (0, .ref (xad (cX C) 107)), (1, .int x1), (2, .int x2)] hC eX11_layCounts_11 (by decide) rfl ?_
  refine J.sub [1, 2, 3, 0] rfl ?_
  exact j_X11_layCounts_12 hC hr  100000 x1 x2 (0 : Int32) μ_1
