abbrev rm_L_holds : Room := { frames := 10, cells := 0, slots := 0, locals := 185 }
def wps_L_holds_690 (σ : CS) (t0 : Int32) (post : Int32 → Prop) : Prop := (narrow .boolean (.int t0) = .int t0 ∧ post t0)
set_option maxHeartbeats 4000000 in
set_option maxRecDepth 100000 in
theorem sg_L_holds_690 {p : Program} {l : Launch} {e : Env} {s : State} {m : MethodId} {args : Array Value} {below : List Frame} {meth : Method} {c : Code} {A : Nat → Prop} {Q : State → Prop} {D : va_G} {cI cJ : ClassId} {a : Nat → Nat} {σ : CS} {post : Int32 → Prop} (hx : p.tables.exec = Jvm.exec) (hb : c.code = cL_holds) (hml : c.maxLocals = 12) (hts : ∀ w ∈ wsL_holds, w.before args s = true) (hown : s.vm.findClass RL = some m.cls) (hK : va_K D vwCl (tysIJ cI cJ) s) (hA : ∀ q : Nat, s.heap.size ≤ q → A q) (hret : ∀ (v : Int32) (u : Unit) (H : Heap) (locs : List Loc) (pc : Nat) (ls : Array Slot), narrow .boolean (.int v) = .int v → post v → Wd D A s.heap (cW cI cJ a σ) H locs → decode cL_holds pc = .ok (.ireturn, 1) → W p l e rm_L_holds s m args below meth c H locs 0 0 Q (F0 m pc ls [.int v]))  (t0 : Int32) (H : Heap) (locs : List Loc) (ls : Array Slot) (hw : wps_L_holds_690 σ t0 post) (hW : Wd D A s.heap (cW cI cJ a σ) H locs) (hl : lv_has ls 12 []) : W p l e rm_L_holds s m args below meth c H locs 0 0 Q (F0 m 690 ls [.int t0]) := by
  exact hret _ () _ _ _ _ hw.1 hw.2 hW dL_holds_690
def wps_L_holds_689 (σ : CS)  (post : Int32 → Prop) : Prop := wps_L_holds_690 σ 0 post
set_option maxHeartbeats 4000000 in
set_option maxRecDepth 100000 in
theorem sg_L_holds_689 {p : Program} {l : Launch} {e : Env} {s : State} {m : MethodId} {args : Array Value} {below : List Frame} {meth : Method} {c : Code} {A : Nat → Prop} {Q : State → Prop} {D : va_G} {cI cJ : ClassId} {a : Nat → Nat} {σ : CS} {post : Int32 → Prop} (hx : p.tables.exec = Jvm.exec) (hb : c.code = cL_holds) (hml : c.maxLocals = 12) (hts : ∀ w ∈ wsL_holds, w.before args s = true) (hown : s.vm.findClass RL = some m.cls) (hK : va_K D vwCl (tysIJ cI cJ) s) (hA : ∀ q : Nat, s.heap.size ≤ q → A q) (hret : ∀ (v : Int32) (u : Unit) (H : Heap) (locs : List Loc) (pc : Nat) (ls : Array Slot), narrow .boolean (.int v) = .int v → post v → Wd D A s.heap (cW cI cJ a σ) H locs → decode cL_holds pc = .ok (.ireturn, 1) → W p l e rm_L_holds s m args below meth c H locs 0 0 Q (F0 m pc ls [.int v]))   (H : Heap) (locs : List Loc) (ls : Array Slot) (hw : wps_L_holds_689 σ  post) (hW : Wd D A s.heap (cW cI cJ a σ) H locs) (hl : lv_has ls 12 []) : W p l e rm_L_holds s m args below meth c H locs 0 0 Q (F0 m 689 ls []) := by
  refine lv_iconst (v := 0) hx hb dL_holds_689 (by decide) ?_
  exact sg_L_holds_690 hx hb hml hts hown hK hA hret 0 _ _ _ hw hW (lv_sub hl [] rfl)
def wps_L_holds_130 (σ : CS) (x1 : Int32) (x2 : Int32) (x3 : Int32) (x4 : Int32) (x5 : Int32) (x6 : Int32) (x7 : Int32) (x8 : Int32) (t0 : Int32) (post : Int32 → Prop) : Prop := ∃ I2001 : Nat → Int32 → Int32 → Int32 → Int32 → Int32 → Int32 → Int32 → Int32 → Int32 → Int32 → Prop, (∃ n : Nat, I2001 n x1 x2 x3 x4 x5 x6 x7 x8 t0 0) ∧ ∀ (n2001 : Nat) (v1_2001 : Int32) (v2_2001 : Int32) (v3_2001 : Int32) (v4_2001 : Int32) (v5_2001 : Int32) (v6_2001 : Int32) (v7_2001 : Int32) (v8_2001 : Int32) (v9_2001 : Int32) (v10_2001 : Int32), I2001 n2001 v1_2001 v2_2001 v3_2001 v4_2001 v5_2001 v6_2001 v7_2001 v8_2001 v9_2001 v10_2001 → ((6 ≤ v10_2001 → ∃ I2002 : Nat → Int32 → Int32 → Prop, (∃ n : Nat, I2002 n v9_2001 0) ∧ ∀ (n2002 : Nat) (v9_2002 : Int32) (v10_2002 : Int32), I2002 n2002 v9_2002 v10_2002 → ((36 ≤ v10_2002 → ((v9_2002 = 0 → wps_L_holds_689 σ post) ∧ (¬ v9_2002 = 0 → wp_X4_count σ 5 (fun r_2003 => ((¬ v1_2001 = r_2003 → wps_L_holds_689 σ post) ∧ (v1_2001 = r_2003 → wp_X4_count σ 10 (fun r_2004 => ((¬ v2_2001 = r_2004 → wps_L_holds_689 σ post) ∧ (v2_2001 = r_2004 → wp_X4_count σ 3 (fun r_2005 => ((¬ v3_2001 = r_2005 → wps_L_holds_689 σ post) ∧ (v3_2001 = r_2005 → ((¬ v4_2001 = v3_2001 → wps_L_holds_689 σ post) ∧ (v4_2001 = v3_2001 → wp_X4_count σ 11 (fun r_2006 => ((¬ v5_2001 = r_2006 → wps_L_holds_689 σ post) ∧ (v5_2001 = r_2006 → ((¬ v6_2001 = v5_2001 → wps_L_holds_689 σ post) ∧ (v6_2001 = v5_2001 → wp_X4_count σ 8 (fun r_2007 => ((¬ v7_2001 = r_2007 → wps_L_holds_689 σ post) ∧ (v7_2001 = r_2007 → wp_X4_count σ 7 (fun r_2008 => ((¬ v8_2001 = r_2008 → wps_L_holds_689 σ post) ∧ (v8_2001 = r_2008 → wp_X4_chestShare σ (fun r_2009 => (((Op.cmpValue (FP.dcmp r_2009 FP.dconst0) .l) < 0 → wps_L_holds_689 σ post) ∧ (¬ (Op.cmpValue (FP.dcmp r_2009 FP.dconst0) .l) < 0 → wp_X4_chestShare σ (fun r_2010 => ((0 < (Op.cmpValue (FP.dcmp r_2010 FP.dconst1) .g) → wps_L_holds_689 σ post) ∧ (¬ 0 < (Op.cmpValue (FP.dcmp r_2010 FP.dconst1) .g) → wp_X4_meanPrice σ (fun r_2011 => ((0 < (Op.cmpValue (FP.fcmp r_2011 1120272384) .g) → wps_L_holds_689 σ post) ∧ (¬ 0 < (Op.cmpValue (FP.fcmp r_2011 1120272384) .g) → wps_L_holds_690 σ 1 post)))))))))))) (fun _ => False)))) (fun _ => False)))))) (fun _ => False)))))) (fun _ => False)))) (fun _ => False)))) (fun _ => False)))) ∧ (¬ 36 ≤ v10_2002 → wp_X4_sealed σ (v10_2002 / 6) (v10_2002 - v10_2002 / 6 * 6) 0 (fun r_2012 => ((v9_2002 = 0 → ∀ v10_2013 : Int32, v10_2013 = v10_2002 + 1 → ∃ n' : Nat, n' < n2002 ∧ I2002 n' 0 v10_2013) ∧ (¬ v9_2002 = 0 → ((4095 < r_2012 → ∀ v10_2014 : Int32, v10_2014 = v10_2002 + 1 → ∃ n' : Nat, n' < n2002 ∧ I2002 n' 0 v10_2014) ∧ (¬ 4095 < r_2012 → ((0 ≤ r_2012 → wp_X4_count σ 2 (fun r_2015 => ((r_2015 = 1 → ∀ v10_2016 : Int32, v10_2016 = v10_2002 + 1 → ∃ n' : Nat, n' < n2002 ∧ I2002 n' 1 v10_2016) ∧ (¬ r_2015 = 1 → wp_X4_sealed σ (v10_2002 / 6) (v10_2002 - v10_2002 / 6 * 6) 2 (fun r_2017 => ((¬ r_2017 = (-1) → ∀ v10_2018 : Int32, v10_2018 = v10_2002 + 1 → ∃ n' : Nat, n' < n2002 ∧ I2002 n' 0 v10_2018) ∧ (r_2017 = (-1) → ∀ v10_2019 : Int32, v10_2019 = v10_2002 + 1 → ∃ n' : Nat, n' < n2002 ∧ I2002 n' 1 v10_2019))) (fun _ => False)))) (fun _ => False)) ∧ (¬ 0 ≤ r_2012 → wp_X4_sealed σ (v10_2002 / 6) (v10_2002 - v10_2002 / 6 * 6) 1 (fun r_2020 => ((¬ r_2020 = (-1) → ∀ v10_2021 : Int32, v10_2021 = v10_2002 + 1 → ∃ n' : Nat, n' < n2002 ∧ I2002 n' 0 v10_2021) ∧ (r_2020 = (-1) → wp_X4_sealed σ (v10_2002 / 6) (v10_2002 - v10_2002 / 6 * 6) 2 (fun r_2022 => ((¬ r_2022 = (-1) → ∀ v10_2023 : Int32, v10_2023 = v10_2002 + 1 → ∃ n' : Nat, n' < n2002 ∧ I2002 n' 0 v10_2023) ∧ (r_2022 = (-1) → wp_X4_sealed σ (v10_2002 / 6) (v10_2002 - v10_2002 / 6 * 6) 3 (fun r_2024 => ((¬ r_2024 = (-1) → ∀ v10_2025 : Int32, v10_2025 = v10_2002 + 1 → ∃ n' : Nat, n' < n2002 ∧ I2002 n' 0 v10_2025) ∧ (r_2024 = (-1) → wp_X4_sealed σ (v10_2002 / 6) (v10_2002 - v10_2002 / 6 * 6) 4 (fun r_2026 => ((r_2026 ≤ 0 → ∀ v10_2027 : Int32, v10_2027 = v10_2002 + 1 → ∃ n' : Nat, n' < n2002 ∧ I2002 n' 0 v10_2027) ∧ (¬ r_2026 ≤ 0 → wp_X4_count σ 2 (fun r_2028 => ((r_2028 = 1 → ∀ v10_2029 : Int32, v10_2029 = v10_2002 + 1 → ∃ n' : Nat, n' < n2002 ∧ I2002 n' 1 v10_2029) ∧ (¬ r_2028 = 1 → wp_X4_sealed σ (v10_2002 / 6) (v10_2002 - v10_2002 / 6 * 6) 2 (fun r_2030 => ((¬ r_2030 = (-1) → ∀ v10_2031 : Int32, v10_2031 = v10_2002 + 1 → ∃ n' : Nat, n' < n2002 ∧ I2002 n' 0 v10_2031) ∧ (r_2030 = (-1) → ∀ v10_2032 : Int32, v10_2032 = v10_2002 + 1 → ∃ n' : Nat, n' < n2002 ∧ I2002 n' 1 v10_2032))) (fun _ => False)))) (fun _ => False)))) (fun _ => False)))) (fun _ => False)))) (fun _ => False)))) (fun _ => False)))))))) (fun _ => False)))) ∧ (¬ 6 ≤ v10_2001 → wp_X4_spot σ v10_2001 2 (fun r_2033 => wp_X4_bidder σ v10_2001 0 (fun r_2034 => ∀ v1_2035 : Int32, v1_2035 = (v1_2001 + r_2034) → wp_X4_spot σ v10_2001 1 (fun r_2036 => ∀ v2_2037 : Int32, v2_2037 = (v2_2001 + r_2036) → wp_X4_spot σ v10_2001 4 (fun r_2038 => ∀ v3_2039 : Int32, v3_2039 = (v3_2001 + r_2038) → wp_X4_bidder σ v10_2001 2 (fun r_2040 => ∀ v4_2041 : Int32, v4_2041 = (v4_2001 + r_2040) → wp_X4_spot σ v10_2001 5 (fun r_2042 => ∀ v5_2043 : Int32, v5_2043 = (v5_2001 + r_2042) → wp_X4_bidder σ v10_2001 1 (fun r_2044 => ∀ v6_2045 : Int32, v6_2045 = (v6_2001 + r_2044) → wp_X4_bidder σ v10_2001 4 (fun r_2046 => ∀ v7_2047 : Int32, v7_2047 = (v7_2001 + r_2046) → wp_X4_bidder σ v10_2001 5 (fun r_2048 => ∀ v8_2049 : Int32, v8_2049 = (v8_2001 + r_2048) → ((v9_2001 = 0 → ∀ v10_2050 : Int32, v10_2050 = v10_2001 + 1 → ∃ n' : Nat, n' < n2001 ∧ I2001 n' v1_2035 v2_2037 v3_2039 v4_2041 v5_2043 v6_2045 v7_2047 v8_2049 0 v10_2050) ∧ (¬ v9_2001 = 0 → wp_X4_bidder σ v10_2001 0 (fun r_2051 => ((r_2051 < 0 → ∀ v10_2052 : Int32, v10_2052 = v10_2001 + 1 → ∃ n' : Nat, n' < n2001 ∧ I2001 n' v1_2035 v2_2037 v3_2039 v4_2041 v5_2043 v6_2045 v7_2047 v8_2049 0 v10_2052) ∧ (¬ r_2051 < 0 → wp_X4_spot σ v10_2001 1 (fun r_2053 => ((r_2053 < 0 → ∀ v10_2054 : Int32, v10_2054 = v10_2001 + 1 → ∃ n' : Nat, n' < n2001 ∧ I2001 n' v1_2035 v2_2037 v3_2039 v4_2041 v5_2043 v6_2045 v7_2047 v8_2049 0 v10_2054) ∧ (¬ r_2053 < 0 → wp_X4_spot σ v10_2001 1 (fun r_2055 => ((200 < r_2055 → ∀ v10_2056 : Int32, v10_2056 = v10_2001 + 1 → ∃ n' : Nat, n' < n2001 ∧ I2001 n' v1_2035 v2_2037 v3_2039 v4_2041 v5_2043 v6_2045 v7_2047 v8_2049 0 v10_2056) ∧ (¬ 200 < r_2055 → ((¬ r_2033 = (-1) → wp_X4_spot σ v10_2001 3 (fun r_2057 => ((¬ r_2057 = (-1) → ((r_2033 < 0 → wp_X4_bidder σ v10_2001 3 (fun r_2058 => ((r_2058 = (-1) → ∀ v10_2059 : Int32, v10_2059 = v10_2001 + 1 → ∃ n' : Nat, n' < n2001 ∧ I2001 n' v1_2035 v2_2037 v3_2039 v4_2041 v5_2043 v6_2045 v7_2047 v8_2049 1 v10_2059) ∧ (¬ r_2058 = (-1) → wp_X4_bidder σ v10_2001 3 (fun r_2060 => wp_X4_spot σ r_2060 2 (fun r_2061 => ((¬ r_2061 = v10_2001 → ∀ v10_2062 : Int32, v10_2062 = v10_2001 + 1 → ∃ n' : Nat, n' < n2001 ∧ I2001 n' v1_2035 v2_2037 v3_2039 v4_2041 v5_2043 v6_2045 v7_2047 v8_2049 0 v10_2062) ∧ (r_2061 = v10_2001 → ∀ v10_2063 : Int32, v10_2063 = v10_2001 + 1 → ∃ n' : Nat, n' < n2001 ∧ I2001 n' v1_2035 v2_2037 v3_2039 v4_2041 v5_2043 v6_2045 v7_2047 v8_2049 1 v10_2063))) (fun _ => False)) (fun _ => False)))) (fun _ => False)) ∧ (¬ r_2033 < 0 → wp_X4_count σ 2 (fun r_2064 => ((¬ r_2064 = 1 → ∀ v10_2065 : Int32, v10_2065 = v10_2001 + 1 → ∃ n' : Nat, n' < n2001 ∧ I2001 n' v1_2035 v2_2037 v3_2039 v4_2041 v5_2043 v6_2045 v7_2047 v8_2049 0 v10_2065) ∧ (r_2064 = 1 → wp_X4_bidder σ r_2033 3 (fun r_2066 => ((¬ r_2066 = v10_2001 → ∀ v10_2067 : Int32, v10_2067 = v10_2001 + 1 → ∃ n' : Nat, n' < n2001 ∧ I2001 n' v1_2035 v2_2037 v3_2039 v4_2041 v5_2043 v6_2045 v7_2047 v8_2049 0 v10_2067) ∧ (r_2066 = v10_2001 → wp_X4_sealed σ r_2033 v10_2001 2 (fun r_2068 => wp_X4_spot σ v10_2001 3 (fun r_2069 => ((r_2068 < r_2069 → ∀ v10_2070 : Int32, v10_2070 = v10_2001 + 1 → ∃ n' : Nat, n' < n2001 ∧ I2001 n' v1_2035 v2_2037 v3_2039 v4_2041 v5_2043 v6_2045 v7_2047 v8_2049 0 v10_2070) ∧ (¬ r_2068 < r_2069 → wp_X4_spot σ v10_2001 3 (fun r_2071 => ((r_2071 < 0 → ∀ v10_2072 : Int32, v10_2072 = v10_2001 + 1 → ∃ n' : Nat, n' < n2001 ∧ I2001 n' v1_2035 v2_2037 v3_2039 v4_2041 v5_2043 v6_2045 v7_2047 v8_2049 0 v10_2072) ∧ (¬ r_2071 < 0 → wp_X4_bidder σ v10_2001 3 (fun r_2073 => ((r_2073 = (-1) → ∀ v10_2074 : Int32, v10_2074 = v10_2001 + 1 → ∃ n' : Nat, n' < n2001 ∧ I2001 n' v1_2035 v2_2037 v3_2039 v4_2041 v5_2043 v6_2045 v7_2047 v8_2049 1 v10_2074) ∧ (¬ r_2073 = (-1) → wp_X4_bidder σ v10_2001 3 (fun r_2075 => wp_X4_spot σ r_2075 2 (fun r_2076 => ((¬ r_2076 = v10_2001 → ∀ v10_2077 : Int32, v10_2077 = v10_2001 + 1 → ∃ n' : Nat, n' < n2001 ∧ I2001 n' v1_2035 v2_2037 v3_2039 v4_2041 v5_2043 v6_2045 v7_2047 v8_2049 0 v10_2077) ∧ (r_2076 = v10_2001 → ∀ v10_2078 : Int32, v10_2078 = v10_2001 + 1 → ∃ n' : Nat, n' < n2001 ∧ I2001 n' v1_2035 v2_2037 v3_2039 v4_2041 v5_2043 v6_2045 v7_2047 v8_2049 1 v10_2078))) (fun _ => False)) (fun _ => False)))) (fun _ => False)))) (fun _ => False)))) (fun _ => False)) (fun _ => False)))) (fun _ => False)))) (fun _ => False)))) ∧ (r_2057 = (-1) → ∀ v10_2079 : Int32, v10_2079 = v10_2001 + 1 → ∃ n' : Nat, n' < n2001 ∧ I2001 n' v1_2035 v2_2037 v3_2039 v4_2041 v5_2043 v6_2045 v7_2047 v8_2049 0 v10_2079))) (fun _ => False)) ∧ (r_2033 = (-1) → wp_X4_spot σ v10_2001 3 (fun r_2080 => ((¬ r_2080 = (-1) → ∀ v10_2081 : Int32, v10_2081 = v10_2001 + 1 → ∃ n' : Nat, n' < n2001 ∧ I2001 n' v1_2035 v2_2037 v3_2039 v4_2041 v5_2043 v6_2045 v7_2047 v8_2049 0 v10_2081) ∧ (r_2080 = (-1) → ((r_2033 < 0 → wp_X4_bidder σ v10_2001 3 (fun r_2082 => ((r_2082 = (-1) → ∀ v10_2083 : Int32, v10_2083 = v10_2001 + 1 → ∃ n' : Nat, n' < n2001 ∧ I2001 n' v1_2035 v2_2037 v3_2039 v4_2041 v5_2043 v6_2045 v7_2047 v8_2049 1 v10_2083) ∧ (¬ r_2082 = (-1) → wp_X4_bidder σ v10_2001 3 (fun r_2084 => wp_X4_spot σ r_2084 2 (fun r_2085 => ((¬ r_2085 = v10_2001 → ∀ v10_2086 : Int32, v10_2086 = v10_2001 + 1 → ∃ n' : Nat, n' < n2001 ∧ I2001 n' v1_2035 v2_2037 v3_2039 v4_2041 v5_2043 v6_2045 v7_2047 v8_2049 0 v10_2086) ∧ (r_2085 = v10_2001 → ∀ v10_2087 : Int32, v10_2087 = v10_2001 + 1 → ∃ n' : Nat, n' < n2001 ∧ I2001 n' v1_2035 v2_2037 v3_2039 v4_2041 v5_2043 v6_2045 v7_2047 v8_2049 1 v10_2087))) (fun _ => False)) (fun _ => False)))) (fun _ => False)) ∧ (¬ r_2033 < 0 → wp_X4_count σ 2 (fun r_2088 => ((¬ r_2088 = 1 → ∀ v10_2089 : Int32, v10_2089 = v10_2001 + 1 → ∃ n' : Nat, n' < n2001 ∧ I2001 n' v1_2035 v2_2037 v3_2039 v4_2041 v5_2043 v6_2045 v7_2047 v8_2049 0 v10_2089) ∧ (r_2088 = 1 → wp_X4_bidder σ r_2033 3 (fun r_2090 => ((¬ r_2090 = v10_2001 → ∀ v10_2091 : Int32, v10_2091 = v10_2001 + 1 → ∃ n' : Nat, n' < n2001 ∧ I2001 n' v1_2035 v2_2037 v3_2039 v4_2041 v5_2043 v6_2045 v7_2047 v8_2049 0 v10_2091) ∧ (r_2090 = v10_2001 → wp_X4_sealed σ r_2033 v10_2001 2 (fun r_2092 => wp_X4_spot σ v10_2001 3 (fun r_2093 => ((r_2092 < r_2093 → ∀ v10_2094 : Int32, v10_2094 = v10_2001 + 1 → ∃ n' : Nat, n' < n2001 ∧ I2001 n' v1_2035 v2_2037 v3_2039 v4_2041 v5_2043 v6_2045 v7_2047 v8_2049 0 v10_2094) ∧ (¬ r_2092 < r_2093 → wp_X4_spot σ v10_2001 3 (fun r_2095 => ((r_2095 < 0 → ∀ v10_2096 : Int32, v10_2096 = v10_2001 + 1 → ∃ n' : Nat, n' < n2001 ∧ I2001 n' v1_2035 v2_2037 v3_2039 v4_2041 v5_2043 v6_2045 v7_2047 v8_2049 0 v10_2096) ∧ (¬ r_2095 < 0 → wp_X4_bidder σ v10_2001 3 (fun r_2097 => ((r_2097 = (-1) → ∀ v10_2098 : Int32, v10_2098 = v10_2001 + 1 → ∃ n' : Nat, n' < n2001 ∧ I2001 n' v1_2035 v2_2037 v3_2039 v4_2041 v5_2043 v6_2045 v7_2047 v8_2049 1 v10_2098) ∧ (¬ r_2097 = (-1) → wp_X4_bidder σ v10_2001 3 (fun r_2099 => wp_X4_spot σ r_2099 2 (fun r_2100 => ((¬ r_2100 = v10_2001 → ∀ v10_2101 : Int32, v10_2101 = v10_2001 + 1 → ∃ n' : Nat, n' < n2001 ∧ I2001 n' v1_2035 v2_2037 v3_2039 v4_2041 v5_2043 v6_2045 v7_2047 v8_2049 0 v10_2101) ∧ (r_2100 = v10_2001 → ∀ v10_2102 : Int32, v10_2102 = v10_2001 + 1 → ∃ n' : Nat, n' < n2001 ∧ I2001 n' v1_2035 v2_2037 v3_2039 v4_2041 v5_2043 v6_2045 v7_2047 v8_2049 1 v10_2102))) (fun _ => False)) (fun _ => False)))) (fun _ => False)))) (fun _ => False)))) (fun _ => False)) (fun _ => False)))) (fun _ => False)))) (fun _ => False)))))) (fun _ => False)))))) (fun _ => False)))) (fun _ => False)))) (fun _ => False)))) (fun _ => False)) (fun _ => False)) (fun _ => False)) (fun _ => False)) (fun _ => False)) (fun _ => False)) (fun _ => False)) (fun _ => False)) (fun _ => False)))
set_option maxHeartbeats 4000000 in
set_option maxRecDepth 100000 in
theorem sg_L_holds_130 {p : Program} {l : Launch} {e : Env} {s : State} {m : MethodId} {args : Array Value} {below : List Frame} {meth : Method} {c : Code} {A : Nat → Prop} {Q : State → Prop} {D : va_G} {cI cJ : ClassId} {a : Nat → Nat} {σ : CS} {post : Int32 → Prop} (hx : p.tables.exec = Jvm.exec) (hb : c.code = cL_holds) (hml : c.maxLocals = 12) (hts : ∀ w ∈ wsL_holds, w.before args s = true) (hown : s.vm.findClass RL = some m.cls) (hK : va_K D vwCl (tysIJ cI cJ) s) (hA : ∀ q : Nat, s.heap.size ≤ q → A q) (hret : ∀ (v : Int32) (u : Unit) (H : Heap) (locs : List Loc) (pc : Nat) (ls : Array Slot), narrow .boolean (.int v) = .int v → post v → Wd D A s.heap (cW cI cJ a σ) H locs → decode cL_holds pc = .ok (.ireturn, 1) → W p l e rm_L_holds s m args below meth c H locs 0 0 Q (F0 m pc ls [.int v]))  (x1 : Int32) (x2 : Int32) (x3 : Int32) (x4 : Int32) (x5 : Int32) (x6 : Int32) (x7 : Int32) (x8 : Int32) (t0 : Int32) (H : Heap) (locs : List Loc) (ls : Array Slot) (hw : wps_L_holds_130 σ x1 x2 x3 x4 x5 x6 x7 x8 t0 post) (hW : Wd D A s.heap (cW cI cJ a σ) H locs) (hl : lv_has ls 12 [(0, .ref (a 0)), (1, .int x1), (2, .int x2), (3, .int x3), (4, .int x4), (5, .int x5), (6, .int x6), (7, .int x7), (8, .int x8)]) : W p l e rm_L_holds s m args below meth c H locs 0 0 Q (F0 m 130 ls [.int t0]) := by
  refine lv_istore (lv' := [(9, .int t0), (0, .ref (a 0)), (1, .int x1), (2, .int x2), (3, .int x3), (4, .int x4), (5, .int x5), (6, .int x6), (7, .int x7), (8, .int x8)]) hx hb dL_holds_130 hl (by decide) rfl (fun ls hl => ?_)
  refine lv_iconst (v := 0) hx hb dL_holds_132 (by decide) ?_
  refine lv_istore (lv' := [(10, .int 0), (9, .int t0), (0, .ref (a 0)), (1, .int x1), (2, .int x2), (3, .int x3), (4, .int x4), (5, .int x5), (6, .int x6), (7, .int x7), (8, .int x8)]) hx hb dL_holds_133 hl (by decide) rfl (fun ls hl => ?_)
  obtain ⟨I2001, ⟨n2001, hI2001⟩, hJ2001⟩ := hw
  have hl : lv_has ls 12 [(0, .ref (a 0)), (1, .int x1), (2, .int x2), (3, .int x3), (4, .int x4), (5, .int x5), (6, .int x6), (7, .int x7), (8, .int x8), (9, .int t0), (10, .int 0)] := lv_sub hl [2, 3, 4, 5, 6, 7, 8, 9, 10, 1, 0] rfl
  suffices LP2001 : ∀ (n : Nat) (v1_2001 : Int32) (v2_2001 : Int32) (v3_2001 : Int32) (v4_2001 : Int32) (v5_2001 : Int32) (v6_2001 : Int32) (v7_2001 : Int32) (v8_2001 : Int32) (v9_2001 : Int32) (v10_2001 : Int32) (H : Heap) (locs : List Loc) (ls : Array Slot), I2001 n v1_2001 v2_2001 v3_2001 v4_2001 v5_2001 v6_2001 v7_2001 v8_2001 v9_2001 v10_2001 → Wd D A s.heap (cW cI cJ a σ) H locs → lv_has ls 12 [(0, .ref (a 0)), (1, .int v1_2001), (2, .int v2_2001), (3, .int v3_2001), (4, .int v4_2001), (5, .int v5_2001), (6, .int v6_2001), (7, .int v7_2001), (8, .int v8_2001), (9, .int v9_2001), (10, .int v10_2001)] → W p l e rm_L_holds s m args below meth c H locs 0 0 Q (F0 m 135 ls []) from LP2001 n2001 x1 x2 x3 x4 x5 x6 x7 x8 t0 0 H locs ls hI2001 hW hl
  intro n2001
  induction n2001 using Nat.strongRecOn with
  | ind n2001 ih2001 =>
    intro v1_2001 v2_2001 v3_2001 v4_2001 v5_2001 v6_2001 v7_2001 v8_2001 v9_2001 v10_2001 H locs ls hIn hW hl
    have hw := hJ2001 n2001 v1_2001 v2_2001 v3_2001 v4_2001 v5_2001 v6_2001 v7_2001 v8_2001 v9_2001 v10_2001 hIn
    refine lv_iload hx hb dL_holds_135 (lv_at hl 10 rfl) ?_
    refine lv_bipush (v := 6) hx hb dL_holds_137 (by decide) ?_
    refine lv_icmp_ge (tgt := 417) hx hb dL_holds_139 (by decide) (fun hc => ?_) (fun hc => ?_)
    · have hw := hw.1 hc
      refine lv_iconst (v := 0) hx hb dL_holds_417 (by decide) ?_
      refine lv_istore (lv' := [(10, .int 0), (0, .ref (a 0)), (1, .int v1_2001), (2, .int v2_2001), (3, .int v3_2001), (4, .int v4_2001), (5, .int v5_2001), (6, .int v6_2001), (7, .int v7_2001), (8, .int v8_2001), (9, .int v9_2001)]) hx hb dL_holds_418 hl (by decide) rfl (fun ls hl => ?_)
      obtain ⟨I2002, ⟨n2002, hI2002⟩, hJ2002⟩ := hw
      have hl : lv_has ls 12 [(0, .ref (a 0)), (1, .int v1_2001), (2, .int v2_2001), (3, .int v3_2001), (4, .int v4_2001), (5, .int v5_2001), (6, .int v6_2001), (7, .int v7_2001), (8, .int v8_2001), (9, .int v9_2001), (10, .int 0)] := lv_sub hl [1, 2, 3, 4, 5, 6, 7, 8, 9, 10, 0] rfl
      suffices LP2002 : ∀ (n : Nat) (v9_2002 : Int32) (v10_2002 : Int32) (H : Heap) (locs : List Loc) (ls : Array Slot), I2002 n v9_2002 v10_2002 → Wd D A s.heap (cW cI cJ a σ) H locs → lv_has ls 12 [(0, .ref (a 0)), (1, .int v1_2001), (2, .int v2_2001), (3, .int v3_2001), (4, .int v4_2001), (5, .int v5_2001), (6, .int v6_2001), (7, .int v7_2001), (8, .int v8_2001), (9, .int v9_2002), (10, .int v10_2002)] → W p l e rm_L_holds s m args below meth c H locs 0 0 Q (F0 m 420 ls []) from LP2002 n2002 v9_2001 0 H locs ls hI2002 hW hl
      intro n2002
      induction n2002 using Nat.strongRecOn with
      | ind n2002 ih2002 =>
        intro v9_2002 v10_2002 H locs ls hIn hW hl
        have hw := hJ2002 n2002 v9_2002 v10_2002 hIn
        refine lv_iload hx hb dL_holds_420 (lv_at hl 10 rfl) ?_
        refine lv_bipush (v := 36) hx hb dL_holds_422 (by decide) ?_
        refine lv_icmp_ge (tgt := 578) hx hb dL_holds_424 (by decide) (fun hc => ?_) (fun hc => ?_)
        · have hw := hw.1 hc
          refine lv_iload hx hb dL_holds_578 (lv_at hl 9 rfl) ?_
          refine lv_if_eq (tgt := 689) hx hb dL_holds_580 (by decide) (fun hc => ?_) (fun hc => ?_)
          · have hw := hw.1 hc
            exact sg_L_holds_689 hx hb hml hts hown hK hA hret  _ _ _ hw hW (lv_sub hl [] rfl)
          · have hw := hw.2 hc
            refine lv_iload_n hx hb dL_holds_583 rfl (lv_at hl 1 rfl) ?_
            refine lv_aload_n hx hb dL_holds_584 rfl (lv_at hl 0 rfl) ?_
            refine lv_iconst (v := 5) hx hb dL_holds_585 (by decide) ?_
            refine kV_Mi (As := [.int 5]) (rest := [.int v1_2001]) ⟨hx, hb, hml, hown, hts⟩ (ok_X4_count_n l D cI cJ a _ _ _ _ hw) (cwV 1 hts gL_holds_X4_count rfl rfl rfl (by decide +kernel) ⟨Nat.le_of_ble_eq_true rfl, Nat.le_of_ble_eq_true rfl⟩) hK hW hA 0 rfl rfl rfl hl.1 rfl (Nat.le_of_ble_eq_true rfl) dL_holds_586 ⟨Nat.le_of_ble_eq_true rfl, Nat.le_of_ble_eq_true rfl⟩ (fun r_2003 _ H locs hw hW => ?_)
            refine lv_icmp_ne (tgt := 689) hx hb dL_holds_589 (by decide) (fun hc => ?_) (fun hc => ?_)
            · have hw := hw.1 hc
              exact sg_L_holds_689 hx hb hml hts hown hK hA hret  _ _ _ hw hW (lv_sub hl [] rfl)
            · have hw := hw.2 hc
              refine lv_iload_n hx hb dL_holds_592 rfl (lv_at hl 2 rfl) ?_
              refine lv_aload_n hx hb dL_holds_593 rfl (lv_at hl 0 rfl) ?_
              refine lv_bipush (v := 10) hx hb dL_holds_594 (by decide) ?_
              refine kV_Mi (As := [.int 10]) (rest := [.int v2_2001]) ⟨hx, hb, hml, hown, hts⟩ (ok_X4_count_n l D cI cJ a _ _ _ _ hw) (cwV 1 hts gL_holds_X4_count rfl rfl rfl (by decide +kernel) ⟨Nat.le_of_ble_eq_true rfl, Nat.le_of_ble_eq_true rfl⟩) hK hW hA 0 rfl rfl rfl hl.1 rfl (Nat.le_of_ble_eq_true rfl) dL_holds_596 ⟨Nat.le_of_ble_eq_true rfl, Nat.le_of_ble_eq_true rfl⟩ (fun r_2004 _ H locs hw hW => ?_)
              refine lv_icmp_ne (tgt := 689) hx hb dL_holds_599 (by decide) (fun hc => ?_) (fun hc => ?_)
              · have hw := hw.1 hc
                exact sg_L_holds_689 hx hb hml hts hown hK hA hret  _ _ _ hw hW (lv_sub hl [] rfl)
              · have hw := hw.2 hc
                refine lv_iload_n hx hb dL_holds_602 rfl (lv_at hl 3 rfl) ?_
                refine lv_aload_n hx hb dL_holds_603 rfl (lv_at hl 0 rfl) ?_
                refine lv_iconst (v := 3) hx hb dL_holds_604 (by decide) ?_
                refine kV_Mi (As := [.int 3]) (rest := [.int v3_2001]) ⟨hx, hb, hml, hown, hts⟩ (ok_X4_count_n l D cI cJ a _ _ _ _ hw) (cwV 1 hts gL_holds_X4_count rfl rfl rfl (by decide +kernel) ⟨Nat.le_of_ble_eq_true rfl, Nat.le_of_ble_eq_true rfl⟩) hK hW hA 0 rfl rfl rfl hl.1 rfl (Nat.le_of_ble_eq_true rfl) dL_holds_605 ⟨Nat.le_of_ble_eq_true rfl, Nat.le_of_ble_eq_true rfl⟩ (fun r_2005 _ H locs hw hW => ?_)
                refine lv_icmp_ne (tgt := 689) hx hb dL_holds_608 (by decide) (fun hc => ?_) (fun hc => ?_)
                · have hw := hw.1 hc
                  exact sg_L_holds_689 hx hb hml hts hown hK hA hret  _ _ _ hw hW (lv_sub hl [] rfl)
                · have hw := hw.2 hc
                  refine lv_iload hx hb dL_holds_611 (lv_at hl 4 rfl) ?_
                  refine lv_iload_n hx hb dL_holds_613 rfl (lv_at hl 3 rfl) ?_
                  refine lv_icmp_ne (tgt := 689) hx hb dL_holds_614 (by decide) (fun hc => ?_) (fun hc => ?_)
                  · have hw := hw.1 hc
                    exact sg_L_holds_689 hx hb hml hts hown hK hA hret  _ _ _ hw hW (lv_sub hl [] rfl)
                  · have hw := hw.2 hc
                    refine lv_iload hx hb dL_holds_617 (lv_at hl 5 rfl) ?_
                    refine lv_aload_n hx hb dL_holds_619 rfl (lv_at hl 0 rfl) ?_
                    refine lv_bipush (v := 11) hx hb dL_holds_620 (by decide) ?_
                    refine kV_Mi (As := [.int 11]) (rest := [.int v5_2001]) ⟨hx, hb, hml, hown, hts⟩ (ok_X4_count_n l D cI cJ a _ _ _ _ hw) (cwV 1 hts gL_holds_X4_count rfl rfl rfl (by decide +kernel) ⟨Nat.le_of_ble_eq_true rfl, Nat.le_of_ble_eq_true rfl⟩) hK hW hA 0 rfl rfl rfl hl.1 rfl (Nat.le_of_ble_eq_true rfl) dL_holds_622 ⟨Nat.le_of_ble_eq_true rfl, Nat.le_of_ble_eq_true rfl⟩ (fun r_2006 _ H locs hw hW => ?_)
                    refine lv_icmp_ne (tgt := 689) hx hb dL_holds_625 (by decide) (fun hc => ?_) (fun hc => ?_)
                    · have hw := hw.1 hc
                      exact sg_L_holds_689 hx hb hml hts hown hK hA hret  _ _ _ hw hW (lv_sub hl [] rfl)
                    · have hw := hw.2 hc
                      refine lv_iload hx hb dL_holds_628 (lv_at hl 6 rfl) ?_
                      refine lv_iload hx hb dL_holds_630 (lv_at hl 5 rfl) ?_
                      refine lv_icmp_ne (tgt := 689) hx hb dL_holds_632 (by decide) (fun hc => ?_) (fun hc => ?_)
                      · have hw := hw.1 hc
                        exact sg_L_holds_689 hx hb hml hts hown hK hA hret  _ _ _ hw hW (lv_sub hl [] rfl)
                      · have hw := hw.2 hc
                        refine lv_iload hx hb dL_holds_635 (lv_at hl 7 rfl) ?_
                        refine lv_aload_n hx hb dL_holds_637 rfl (lv_at hl 0 rfl) ?_
                        refine lv_bipush (v := 8) hx hb dL_holds_638 (by decide) ?_
                        refine kV_Mi (As := [.int 8]) (rest := [.int v7_2001]) ⟨hx, hb, hml, hown, hts⟩ (ok_X4_count_n l D cI cJ a _ _ _ _ hw) (cwV 1 hts gL_holds_X4_count rfl rfl rfl (by decide +kernel) ⟨Nat.le_of_ble_eq_true rfl, Nat.le_of_ble_eq_true rfl⟩) hK hW hA 0 rfl rfl rfl hl.1 rfl (Nat.le_of_ble_eq_true rfl) dL_holds_640 ⟨Nat.le_of_ble_eq_true rfl, Nat.le_of_ble_eq_true rfl⟩ (fun r_2007 _ H locs hw hW => ?_)
                        refine lv_icmp_ne (tgt := 689) hx hb dL_holds_643 (by decide) (fun hc => ?_) (fun hc => ?_)
                        · have hw := hw.1 hc
                          exact sg_L_holds_689 hx hb hml hts hown hK hA hret  _ _ _ hw hW (lv_sub hl [] rfl)
                        · have hw := hw.2 hc
                          refine lv_iload hx hb dL_holds_646 (lv_at hl 8 rfl) ?_
                          refine lv_aload_n hx hb dL_holds_648 rfl (lv_at hl 0 rfl) ?_
                          refine lv_bipush (v := 7) hx hb dL_holds_649 (by decide) ?_
                          refine kV_Mi (As := [.int 7]) (rest := [.int v8_2001]) ⟨hx, hb, hml, hown, hts⟩ (ok_X4_count_n l D cI cJ a _ _ _ _ hw) (cwV 1 hts gL_holds_X4_count rfl rfl rfl (by decide +kernel) ⟨Nat.le_of_ble_eq_true rfl, Nat.le_of_ble_eq_true rfl⟩) hK hW hA 0 rfl rfl rfl hl.1 rfl (Nat.le_of_ble_eq_true rfl) dL_holds_651 ⟨Nat.le_of_ble_eq_true rfl, Nat.le_of_ble_eq_true rfl⟩ (fun r_2008 _ H locs hw hW => ?_)
                          refine lv_icmp_ne (tgt := 689) hx hb dL_holds_654 (by decide) (fun hc => ?_) (fun hc => ?_)
                          · have hw := hw.1 hc
                            exact sg_L_holds_689 hx hb hml hts hown hK hA hret  _ _ _ hw hW (lv_sub hl [] rfl)
                          · have hw := hw.2 hc
                            refine lv_aload_n hx hb dL_holds_657 rfl (lv_at hl 0 rfl) ?_
                            refine kV_Md (As := []) (rest := []) ⟨hx, hb, hml, hown, hts⟩ (ok_X4_chestShare l D cI cJ a _ _ _ hw) (cwV 0 hts gL_holds_X4_chestShare rfl rfl rfl (by decide +kernel) ⟨Nat.le_of_ble_eq_true rfl, Nat.le_of_ble_eq_true rfl⟩) hK hW hA 0 rfl rfl rfl hl.1 rfl (Nat.le_of_ble_eq_true rfl) dL_holds_658 ⟨Nat.le_of_ble_eq_true rfl, Nat.le_of_ble_eq_true rfl⟩ (fun r_2009 _ H locs hw hW => ?_)
                            refine lv_dconst0 hx hb dL_holds_661 ?_
                            refine lv_dcmp hx hb dL_holds_662 ?_
                            refine lv_if_lt (tgt := 689) hx hb dL_holds_663 (by decide) (fun hc => ?_) (fun hc => ?_)
                            · have hw := hw.1 hc
                              exact sg_L_holds_689 hx hb hml hts hown hK hA hret  _ _ _ hw hW (lv_sub hl [] rfl)
                            · have hw := hw.2 hc
                              refine lv_aload_n hx hb dL_holds_666 rfl (lv_at hl 0 rfl) ?_
                              refine kV_Md (As := []) (rest := []) ⟨hx, hb, hml, hown, hts⟩ (ok_X4_chestShare l D cI cJ a _ _ _ hw) (cwV 0 hts gL_holds_X4_chestShare rfl rfl rfl (by decide +kernel) ⟨Nat.le_of_ble_eq_true rfl, Nat.le_of_ble_eq_true rfl⟩) hK hW hA 0 rfl rfl rfl hl.1 rfl (Nat.le_of_ble_eq_true rfl) dL_holds_667 ⟨Nat.le_of_ble_eq_true rfl, Nat.le_of_ble_eq_true rfl⟩ (fun r_2010 _ H locs hw hW => ?_)
                              refine lv_dconst1 hx hb dL_holds_670 ?_
                              refine lv_dcmp hx hb dL_holds_671 ?_
                              refine lv_if_gt (tgt := 689) hx hb dL_holds_672 (by decide) (fun hc => ?_) (fun hc => ?_)
                              · have hw := hw.1 hc
                                exact sg_L_holds_689 hx hb hml hts hown hK hA hret  _ _ _ hw hW (lv_sub hl [] rfl)
                              · have hw := hw.2 hc
                                refine lv_aload_n hx hb dL_holds_675 rfl (lv_at hl 0 rfl) ?_
                                refine kV_Mf (As := []) (rest := []) ⟨hx, hb, hml, hown, hts⟩ (ok_X4_meanPrice l D cI cJ a _ _ _ hw) (cwV 0 hts gL_holds_X4_meanPrice rfl rfl rfl (by decide +kernel) ⟨Nat.le_of_ble_eq_true rfl, Nat.le_of_ble_eq_true rfl⟩) hK hW hA 0 rfl rfl rfl hl.1 rfl (Nat.le_of_ble_eq_true rfl) dL_holds_676 ⟨Nat.le_of_ble_eq_true rfl, Nat.le_of_ble_eq_true rfl⟩ (fun r_2011 _ H locs hw hW => ?_)
                                refine lv_ldcf (own := RL) (v := 1120272384) hx hb hown (hts _ (List.mem_of_getElem? (i := 1) rfl)) dL_holds_679 ?_
                                refine lv_fcmp hx hb dL_holds_681 ?_
                                refine lv_if_gt (tgt := 689) hx hb dL_holds_682 (by decide) (fun hc => ?_) (fun hc => ?_)
                                · have hw := hw.1 hc
                                  exact sg_L_holds_689 hx hb hml hts hown hK hA hret  _ _ _ hw hW (lv_sub hl [] rfl)
                                · have hw := hw.2 hc
                                  refine lv_iconst (v := 1) hx hb dL_holds_685 (by decide) ?_
                                  refine lv_goto (tgt := 690) hx hb dL_holds_686 (by decide) ?_
                                  exact sg_L_holds_690 hx hb hml hts hown hK hA hret 1 _ _ _ hw hW (lv_sub hl [] rfl)
        · have hw := hw.2 hc
          refine lv_aload_n hx hb dL_holds_427 rfl (lv_at hl 0 rfl) ?_
          refine lv_iload hx hb dL_holds_428 (lv_at hl 10 rfl) ?_
          refine lv_bipush (v := 6) hx hb dL_holds_430 (by decide) ?_
          refine lv_idiv hx hb dL_holds_432 (by decide) ?_
          refine lv_iload hx hb dL_holds_433 (lv_at hl 10 rfl) ?_
          refine lv_bipush (v := 6) hx hb dL_holds_435 (by decide) ?_
          refine lv_irem hx hb dL_holds_437 (by decide) ?_
          refine lv_iconst (v := 0) hx hb dL_holds_438 (by decide) ?_
          refine kV_Mi (As := [.int (v10_2002 / 6), .int (v10_2002 - v10_2002 / 6 * 6), .int 0]) (rest := []) ⟨hx, hb, hml, hown, hts⟩ (ok_X4_sealed_n l D cI cJ a _ _ _ _ _ _ hw) (cwV 3 hts gL_holds_X4_sealed rfl rfl rfl (by decide +kernel) ⟨Nat.le_of_ble_eq_true rfl, Nat.le_of_ble_eq_true rfl⟩) hK hW hA 0 rfl rfl rfl hl.1 rfl (Nat.le_of_ble_eq_true rfl) dL_holds_439 ⟨Nat.le_of_ble_eq_true rfl, Nat.le_of_ble_eq_true rfl⟩ (fun r_2012 _ H locs hw hW => ?_)
          refine lv_istore (lv' := [(11, .int r_2012), (0, .ref (a 0)), (1, .int v1_2001), (2, .int v2_2001), (3, .int v3_2001), (4, .int v4_2001), (5, .int v5_2001), (6, .int v6_2001), (7, .int v7_2001), (8, .int v8_2001), (9, .int v9_2002), (10, .int v10_2002)]) hx hb dL_holds_442 hl (by decide) rfl (fun ls hl => ?_)
          refine lv_iload hx hb dL_holds_444 (lv_at hl 10 rfl) ?_
          refine lv_if_eq (tgt := 569) hx hb dL_holds_446 (by decide) (fun hc => ?_) (fun hc => ?_)
          · have hw := hw.1 hc
            refine lv_iconst (v := 0) hx hb dL_holds_569 (by decide) ?_
            refine lv_istore (lv' := [(9, .int 0), (11, .int r_2012), (0, .ref (a 0)), (1, .int v1_2001), (2, .int v2_2001), (3, .int v3_2001), (4, .int v4_2001), (5, .int v5_2001), (6, .int v6_2001), (7, .int v7_2001), (8, .int v8_2001), (10, .int v10_2002)]) hx hb dL_holds_570 hl (by decide) rfl (fun ls hl => ?_)
            obtain ⟨v10_2013, ev10_2013⟩ : ∃ y : Int32, y = v10_2002 + 1 := ⟨_, rfl⟩
            have hw := hw v10_2013 ev10_2013
            refine lv_iinc (v := v10_2013) (lv' := [(10, .int v10_2013), (9, .int 0), (11, .int r_2012), (0, .ref (a 0)), (1, .int v1_2001), (2, .int v2_2001), (3, .int v3_2001), (4, .int v4_2001), (5, .int v5_2001), (6, .int v6_2001), (7, .int v7_2001), (8, .int v8_2001)]) hx hb dL_holds_572 hl (k := 11) rfl (by rw [ev10_2013]; rfl) (by decide) rfl (fun ls hl => ?_)
            refine lv_goto (tgt := 420) hx hb dL_holds_575 (by decide) ?_
            obtain ⟨n9, hlt9, hI9⟩ := hw
            exact ih2002 n9 hlt9 _ _ _ _ _ hI9 hW (lv_sub hl [3, 4, 5, 6, 7, 8, 9, 10, 11, 1, 0] rfl)
          · have hw := hw.2 hc
            refine lv_iload hx hb dL_holds_449 (lv_at hl 0 rfl) ?_
            refine lv_sipush (v := 4095) hx hb dL_holds_451 (by decide) ?_
            refine lv_icmp_gt (tgt := 569) hx hb dL_holds_454 (by decide) (fun hc => ?_) (fun hc => ?_)
            · have hw := hw.1 hc
              refine lv_iconst (v := 0) hx hb dL_holds_569 (by decide) ?_
              refine lv_istore (lv' := [(9, .int 0), (11, .int r_2012), (0, .ref (a 0)), (1, .int v1_2001), (2, .int v2_2001), (3, .int v3_2001), (4, .int v4_2001), (5, .int v5_2001), (6, .int v6_2001), (7, .int v7_2001), (8, .int v8_2001), (10, .int v10_2002)]) hx hb dL_holds_570 hl (by decide) rfl (fun ls hl => ?_)
              obtain ⟨v10_2014, ev10_2014⟩ : ∃ y : Int32, y = v10_2002 + 1 := ⟨_, rfl⟩
              have hw := hw v10_2014 ev10_2014
              refine lv_iinc (v := v10_2014) (lv' := [(10, .int v10_2014), (9, .int 0), (11, .int r_2012), (0, .ref (a 0)), (1, .int v1_2001), (2, .int v2_2001), (3, .int v3_2001), (4, .int v4_2001), (5, .int v5_2001), (6, .int v6_2001), (7, .int v7_2001), (8, .int v8_2001)]) hx hb dL_holds_572 hl (k := 11) rfl (by rw [ev10_2014]; rfl) (by decide) rfl (fun ls hl => ?_)
              refine lv_goto (tgt := 420) hx hb dL_holds_575 (by decide) ?_
              obtain ⟨n9, hlt9, hI9⟩ := hw
              exact ih2002 n9 hlt9 _ _ _ _ _ hI9 hW (lv_sub hl [3, 4, 5, 6, 7, 8, 9, 10, 11, 1, 0] rfl)
            · have hw := hw.2 hc
              refine lv_iload hx hb dL_holds_457 (lv_at hl 0 rfl) ?_
              refine lv_if_ge (tgt := 537) hx hb dL_holds_459 (by decide) (fun hc => ?_) (fun hc => ?_)
              · have hw := hw.1 hc
                refine lv_aload_n hx hb dL_holds_537 rfl (lv_at hl 1 rfl) ?_
                refine lv_iconst (v := 2) hx hb dL_holds_538 (by decide) ?_
                refine kV_Mi (As := [.int 2]) (rest := []) ⟨hx, hb, hml, hown, hts⟩ (ok_X4_count_n l D cI cJ a _ _ _ _ hw) (cwV 1 hts gL_holds_X4_count rfl rfl rfl (by decide +kernel) ⟨Nat.le_of_ble_eq_true rfl, Nat.le_of_ble_eq_true rfl⟩) hK hW hA 0 rfl rfl rfl hl.1 rfl (Nat.le_of_ble_eq_true rfl) dL_holds_539 ⟨Nat.le_of_ble_eq_true rfl, Nat.le_of_ble_eq_true rfl⟩ (fun r_2015 _ H locs hw hW => ?_)
                refine lv_iconst (v := 1) hx hb dL_holds_542 (by decide) ?_
                refine lv_icmp_eq (tgt := 565) hx hb dL_holds_543 (by decide) (fun hc => ?_) (fun hc => ?_)
                · have hw := hw.1 hc
                  refine lv_iconst (v := 1) hx hb dL_holds_565 (by decide) ?_
                  refine lv_goto (tgt := 570) hx hb dL_holds_566 (by decide) ?_
                  refine lv_istore (lv' := [(9, .int 1), (11, .int r_2012), (0, .ref (a 0)), (1, .int v1_2001), (2, .int v2_2001), (3, .int v3_2001), (4, .int v4_2001), (5, .int v5_2001), (6, .int v6_2001), (7, .int v7_2001), (8, .int v8_2001), (10, .int v10_2002)]) hx hb dL_holds_570 hl (by decide) rfl (fun ls hl => ?_)
                  obtain ⟨v10_2016, ev10_2016⟩ : ∃ y : Int32, y = v10_2002 + 1 := ⟨_, rfl⟩
                  have hw := hw v10_2016 ev10_2016
                  refine lv_iinc (v := v10_2016) (lv' := [(10, .int v10_2016), (9, .int 1), (11, .int r_2012), (0, .ref (a 0)), (1, .int v1_2001), (2, .int v2_2001), (3, .int v3_2001), (4, .int v4_2001), (5, .int v5_2001), (6, .int v6_2001), (7, .int v7_2001), (8, .int v8_2001)]) hx hb dL_holds_572 hl (k := 11) rfl (by rw [ev10_2016]; rfl) (by decide) rfl (fun ls hl => ?_)
                  refine lv_goto (tgt := 420) hx hb dL_holds_575 (by decide) ?_
                  obtain ⟨n9, hlt9, hI9⟩ := hw
                  exact ih2002 n9 hlt9 _ _ _ _ _ hI9 hW (lv_sub hl [3, 4, 5, 6, 7, 8, 9, 10, 11, 1, 0] rfl)
                · have hw := hw.2 hc
                  refine lv_aload_n hx hb dL_holds_546 rfl (lv_at hl 1 rfl) ?_
                  refine lv_iload hx hb dL_holds_547 (lv_at hl 11 rfl) ?_
                  refine lv_bipush (v := 6) hx hb dL_holds_549 (by decide) ?_
                  refine lv_idiv hx hb dL_holds_551 (by decide) ?_
                  refine lv_iload hx hb dL_holds_552 (lv_at hl 11 rfl) ?_
                  refine lv_bipush (v := 6) hx hb dL_holds_554 (by decide) ?_
                  refine lv_irem hx hb dL_holds_556 (by decide) ?_
                  refine lv_iconst (v := 2) hx hb dL_holds_557 (by decide) ?_
                  refine kV_Mi (As := [.int (v10_2002 / 6), .int (v10_2002 - v10_2002 / 6 * 6), .int 2]) (rest := []) ⟨hx, hb, hml, hown, hts⟩ (ok_X4_sealed_n l D cI cJ a _ _ _ _ _ _ hw) (cwV 3 hts gL_holds_X4_sealed rfl rfl rfl (by decide +kernel) ⟨Nat.le_of_ble_eq_true rfl, Nat.le_of_ble_eq_true rfl⟩) hK hW hA 0 rfl rfl rfl hl.1 rfl (Nat.le_of_ble_eq_true rfl) dL_holds_558 ⟨Nat.le_of_ble_eq_true rfl, Nat.le_of_ble_eq_true rfl⟩ (fun r_2017 _ H locs hw hW => ?_)
                  refine lv_iconst (v := (-1)) hx hb dL_holds_561 (by decide) ?_
                  refine lv_icmp_ne (tgt := 569) hx hb dL_holds_562 (by decide) (fun hc => ?_) (fun hc => ?_)
                  · have hw := hw.1 hc
                    refine lv_iconst (v := 0) hx hb dL_holds_569 (by decide) ?_
                    refine lv_istore (lv' := [(9, .int 0), (11, .int r_2012), (0, .ref (a 0)), (1, .int v1_2001), (2, .int v2_2001), (3, .int v3_2001), (4, .int v4_2001), (5, .int v5_2001), (6, .int v6_2001), (7, .int v7_2001), (8, .int v8_2001), (10, .int v10_2002)]) hx hb dL_holds_570 hl (by decide) rfl (fun ls hl => ?_)
                    obtain ⟨v10_2018, ev10_2018⟩ : ∃ y : Int32, y = v10_2002 + 1 := ⟨_, rfl⟩
                    have hw := hw v10_2018 ev10_2018
                    refine lv_iinc (v := v10_2018) (lv' := [(10, .int v10_2018), (9, .int 0), (11, .int r_2012), (0, .ref (a 0)), (1, .int v1_2001), (2, .int v2_2001), (3, .int v3_2001), (4, .int v4_2001), (5, .int v5_2001), (6, .int v6_2001), (7, .int v7_2001), (8, .int v8_2001)]) hx hb dL_holds_572 hl (k := 11) rfl (by rw [ev10_2018]; rfl) (by decide) rfl (fun ls hl => ?_)
                    refine lv_goto (tgt := 420) hx hb dL_holds_575 (by decide) ?_
                    obtain ⟨n9, hlt9, hI9⟩ := hw
                    exact ih2002 n9 hlt9 _ _ _ _ _ hI9 hW (lv_sub hl [3, 4, 5, 6, 7, 8, 9, 10, 11, 1, 0] rfl)
                  · have hw := hw.2 hc
                    refine lv_iconst (v := 1) hx hb dL_holds_565 (by decide) ?_
                    refine lv_goto (tgt := 570) hx hb dL_holds_566 (by decide) ?_
                    refine lv_istore (lv' := [(9, .int 1), (11, .int r_2012), (0, .ref (a 0)), (1, .int v1_2001), (2, .int v2_2001), (3, .int v3_2001), (4, .int v4_2001), (5, .int v5_2001), (6, .int v6_2001), (7, .int v7_2001), (8, .int v8_2001), (10, .int v10_2002)]) hx hb dL_holds_570 hl (by decide) rfl (fun ls hl => ?_)
                    obtain ⟨v10_2019, ev10_2019⟩ : ∃ y : Int32, y = v10_2002 + 1 := ⟨_, rfl⟩
                    have hw := hw v10_2019 ev10_2019
                    refine lv_iinc (v := v10_2019) (lv' := [(10, .int v10_2019), (9, .int 1), (11, .int r_2012), (0, .ref (a 0)), (1, .int v1_2001), (2, .int v2_2001), (3, .int v3_2001), (4, .int v4_2001), (5, .int v5_2001), (6, .int v6_2001), (7, .int v7_2001), (8, .int v8_2001)]) hx hb dL_holds_572 hl (k := 11) rfl (by rw [ev10_2019]; rfl) (by decide) rfl (fun ls hl => ?_)
                    refine lv_goto (tgt := 420) hx hb dL_holds_575 (by decide) ?_
                    obtain ⟨n9, hlt9, hI9⟩ := hw
                    exact ih2002 n9 hlt9 _ _ _ _ _ hI9 hW (lv_sub hl [3, 4, 5, 6, 7, 8, 9, 10, 11, 1, 0] rfl)
              · have hw := hw.2 hc
                refine lv_aload_n hx hb dL_holds_462 rfl (lv_at hl 1 rfl) ?_
                refine lv_iload hx hb dL_holds_463 (lv_at hl 11 rfl) ?_
                refine lv_bipush (v := 6) hx hb dL_holds_465 (by decide) ?_
                refine lv_idiv hx hb dL_holds_467 (by decide) ?_
                refine lv_iload hx hb dL_holds_468 (lv_at hl 11 rfl) ?_
                refine lv_bipush (v := 6) hx hb dL_holds_470 (by decide) ?_
                refine lv_irem hx hb dL_holds_472 (by decide) ?_
                refine lv_iconst (v := 1) hx hb dL_holds_473 (by decide) ?_
                refine kV_Mi (As := [.int (v10_2002 / 6), .int (v10_2002 - v10_2002 / 6 * 6), .int 1]) (rest := []) ⟨hx, hb, hml, hown, hts⟩ (ok_X4_sealed_n l D cI cJ a _ _ _ _ _ _ hw) (cwV 3 hts gL_holds_X4_sealed rfl rfl rfl (by decide +kernel) ⟨Nat.le_of_ble_eq_true rfl, Nat.le_of_ble_eq_true rfl⟩) hK hW hA 0 rfl rfl rfl hl.1 rfl (Nat.le_of_ble_eq_true rfl) dL_holds_474 ⟨Nat.le_of_ble_eq_true rfl, Nat.le_of_ble_eq_true rfl⟩ (fun r_2020 _ H locs hw hW => ?_)
                refine lv_iconst (v := (-1)) hx hb dL_holds_477 (by decide) ?_
                refine lv_icmp_ne (tgt := 569) hx hb dL_holds_478 (by decide) (fun hc => ?_) (fun hc => ?_)
                · have hw := hw.1 hc
                  refine lv_iconst (v := 0) hx hb dL_holds_569 (by decide) ?_
                  refine lv_istore (lv' := [(9, .int 0), (11, .int r_2012), (0, .ref (a 0)), (1, .int v1_2001), (2, .int v2_2001), (3, .int v3_2001), (4, .int v4_2001), (5, .int v5_2001), (6, .int v6_2001), (7, .int v7_2001), (8, .int v8_2001), (10, .int v10_2002)]) hx hb dL_holds_570 hl (by decide) rfl (fun ls hl => ?_)
                  obtain ⟨v10_2021, ev10_2021⟩ : ∃ y : Int32, y = v10_2002 + 1 := ⟨_, rfl⟩
                  have hw := hw v10_2021 ev10_2021
                  refine lv_iinc (v := v10_2021) (lv' := [(10, .int v10_2021), (9, .int 0), (11, .int r_2012), (0, .ref (a 0)), (1, .int v1_2001), (2, .int v2_2001), (3, .int v3_2001), (4, .int v4_2001), (5, .int v5_2001), (6, .int v6_2001), (7, .int v7_2001), (8, .int v8_2001)]) hx hb dL_holds_572 hl (k := 11) rfl (by rw [ev10_2021]; rfl) (by decide) rfl (fun ls hl => ?_)
                  refine lv_goto (tgt := 420) hx hb dL_holds_575 (by decide) ?_
                  obtain ⟨n9, hlt9, hI9⟩ := hw
                  exact ih2002 n9 hlt9 _ _ _ _ _ hI9 hW (lv_sub hl [3, 4, 5, 6, 7, 8, 9, 10, 11, 1, 0] rfl)
                · have hw := hw.2 hc
                  refine lv_aload_n hx hb dL_holds_481 rfl (lv_at hl 1 rfl) ?_
                  refine lv_iload hx hb dL_holds_482 (lv_at hl 11 rfl) ?_
                  refine lv_bipush (v := 6) hx hb dL_holds_484 (by decide) ?_
                  refine lv_idiv hx hb dL_holds_486 (by decide) ?_
                  refine lv_iload hx hb dL_holds_487 (lv_at hl 11 rfl) ?_
                  refine lv_bipush (v := 6) hx hb dL_holds_489 (by decide) ?_
                  refine lv_irem hx hb dL_holds_491 (by decide) ?_
                  refine lv_iconst (v := 2) hx hb dL_holds_492 (by decide) ?_
                  refine kV_Mi (As := [.int (v10_2002 / 6), .int (v10_2002 - v10_2002 / 6 * 6), .int 2]) (rest := []) ⟨hx, hb, hml, hown, hts⟩ (ok_X4_sealed_n l D cI cJ a _ _ _ _ _ _ hw) (cwV 3 hts gL_holds_X4_sealed rfl rfl rfl (by decide +kernel) ⟨Nat.le_of_ble_eq_true rfl, Nat.le_of_ble_eq_true rfl⟩) hK hW hA 0 rfl rfl rfl hl.1 rfl (Nat.le_of_ble_eq_true rfl) dL_holds_493 ⟨Nat.le_of_ble_eq_true rfl, Nat.le_of_ble_eq_true rfl⟩ (fun r_2022 _ H locs hw hW => ?_)
                  refine lv_iconst (v := (-1)) hx hb dL_holds_496 (by decide) ?_
                  refine lv_icmp_ne (tgt := 569) hx hb dL_holds_497 (by decide) (fun hc => ?_) (fun hc => ?_)
                  · have hw := hw.1 hc
                    refine lv_iconst (v := 0) hx hb dL_holds_569 (by decide) ?_
                    refine lv_istore (lv' := [(9, .int 0), (11, .int r_2012), (0, .ref (a 0)), (1, .int v1_2001), (2, .int v2_2001), (3, .int v3_2001), (4, .int v4_2001), (5, .int v5_2001), (6, .int v6_2001), (7, .int v7_2001), (8, .int v8_2001), (10, .int v10_2002)]) hx hb dL_holds_570 hl (by decide) rfl (fun ls hl => ?_)
                    obtain ⟨v10_2023, ev10_2023⟩ : ∃ y : Int32, y = v10_2002 + 1 := ⟨_, rfl⟩
                    have hw := hw v10_2023 ev10_2023
                    refine lv_iinc (v := v10_2023) (lv' := [(10, .int v10_2023), (9, .int 0), (11, .int r_2012), (0, .ref (a 0)), (1, .int v1_2001), (2, .int v2_2001), (3, .int v3_2001), (4, .int v4_2001), (5, .int v5_2001), (6, .int v6_2001), (7, .int v7_2001), (8, .int v8_2001)]) hx hb dL_holds_572 hl (k := 11) rfl (by rw [ev10_2023]; rfl) (by decide) rfl (fun ls hl => ?_)
                    refine lv_goto (tgt := 420) hx hb dL_holds_575 (by decide) ?_
                    obtain ⟨n9, hlt9, hI9⟩ := hw
                    exact ih2002 n9 hlt9 _ _ _ _ _ hI9 hW (lv_sub hl [3, 4, 5, 6, 7, 8, 9, 10, 11, 1, 0] rfl)
                  · have hw := hw.2 hc
                    refine lv_aload_n hx hb dL_holds_500 rfl (lv_at hl 1 rfl) ?_
                    refine lv_iload hx hb dL_holds_501 (lv_at hl 11 rfl) ?_
                    refine lv_bipush (v := 6) hx hb dL_holds_503 (by decide) ?_
                    refine lv_idiv hx hb dL_holds_505 (by decide) ?_
                    refine lv_iload hx hb dL_holds_506 (lv_at hl 11 rfl) ?_
                    refine lv_bipush (v := 6) hx hb dL_holds_508 (by decide) ?_
                    refine lv_irem hx hb dL_holds_510 (by decide) ?_
                    refine lv_iconst (v := 3) hx hb dL_holds_511 (by decide) ?_
                    refine kV_Mi (As := [.int (v10_2002 / 6), .int (v10_2002 - v10_2002 / 6 * 6), .int 3]) (rest := []) ⟨hx, hb, hml, hown, hts⟩ (ok_X4_sealed_n l D cI cJ a _ _ _ _ _ _ hw) (cwV 3 hts gL_holds_X4_sealed rfl rfl rfl (by decide +kernel) ⟨Nat.le_of_ble_eq_true rfl, Nat.le_of_ble_eq_true rfl⟩) hK hW hA 0 rfl rfl rfl hl.1 rfl (Nat.le_of_ble_eq_true rfl) dL_holds_512 ⟨Nat.le_of_ble_eq_true rfl, Nat.le_of_ble_eq_true rfl⟩ (fun r_2024 _ H locs hw hW => ?_)
                    refine lv_iconst (v := (-1)) hx hb dL_holds_515 (by decide) ?_
                    refine lv_icmp_ne (tgt := 569) hx hb dL_holds_516 (by decide) (fun hc => ?_) (fun hc => ?_)
                    · have hw := hw.1 hc
                      refine lv_iconst (v := 0) hx hb dL_holds_569 (by decide) ?_
                      refine lv_istore (lv' := [(9, .int 0), (11, .int r_2012), (0, .ref (a 0)), (1, .int v1_2001), (2, .int v2_2001), (3, .int v3_2001), (4, .int v4_2001), (5, .int v5_2001), (6, .int v6_2001), (7, .int v7_2001), (8, .int v8_2001), (10, .int v10_2002)]) hx hb dL_holds_570 hl (by decide) rfl (fun ls hl => ?_)
                      obtain ⟨v10_2025, ev10_2025⟩ : ∃ y : Int32, y = v10_2002 + 1 := ⟨_, rfl⟩
                      have hw := hw v10_2025 ev10_2025
                      refine lv_iinc (v := v10_2025) (lv' := [(10, .int v10_2025), (9, .int 0), (11, .int r_2012), (0, .ref (a 0)), (1, .int v1_2001), (2, .int v2_2001), (3, .int v3_2001), (4, .int v4_2001), (5, .int v5_2001), (6, .int v6_2001), (7, .int v7_2001), (8, .int v8_2001)]) hx hb dL_holds_572 hl (k := 11) rfl (by rw [ev10_2025]; rfl) (by decide) rfl (fun ls hl => ?_)
                      refine lv_goto (tgt := 420) hx hb dL_holds_575 (by decide) ?_
                      obtain ⟨n9, hlt9, hI9⟩ := hw
                      exact ih2002 n9 hlt9 _ _ _ _ _ hI9 hW (lv_sub hl [3, 4, 5, 6, 7, 8, 9, 10, 11, 1, 0] rfl)
                    · have hw := hw.2 hc
                      refine lv_aload_n hx hb dL_holds_519 rfl (lv_at hl 1 rfl) ?_
                      refine lv_iload hx hb dL_holds_520 (lv_at hl 11 rfl) ?_
                      refine lv_bipush (v := 6) hx hb dL_holds_522 (by decide) ?_
                      refine lv_idiv hx hb dL_holds_524 (by decide) ?_
                      refine lv_iload hx hb dL_holds_525 (lv_at hl 11 rfl) ?_
                      refine lv_bipush (v := 6) hx hb dL_holds_527 (by decide) ?_
                      refine lv_irem hx hb dL_holds_529 (by decide) ?_
                      refine lv_iconst (v := 4) hx hb dL_holds_530 (by decide) ?_
                      refine kV_Mi (As := [.int (v10_2002 / 6), .int (v10_2002 - v10_2002 / 6 * 6), .int 4]) (rest := []) ⟨hx, hb, hml, hown, hts⟩ (ok_X4_sealed_n l D cI cJ a _ _ _ _ _ _ hw) (cwV 3 hts gL_holds_X4_sealed rfl rfl rfl (by decide +kernel) ⟨Nat.le_of_ble_eq_true rfl, Nat.le_of_ble_eq_true rfl⟩) hK hW hA 0 rfl rfl rfl hl.1 rfl (Nat.le_of_ble_eq_true rfl) dL_holds_531 ⟨Nat.le_of_ble_eq_true rfl, Nat.le_of_ble_eq_true rfl⟩ (fun r_2026 _ H locs hw hW => ?_)
                      refine lv_if_le (tgt := 569) hx hb dL_holds_534 (by decide) (fun hc => ?_) (fun hc => ?_)
                      · have hw := hw.1 hc
                        refine lv_iconst (v := 0) hx hb dL_holds_569 (by decide) ?_
                        refine lv_istore (lv' := [(9, .int 0), (11, .int r_2012), (0, .ref (a 0)), (1, .int v1_2001), (2, .int v2_2001), (3, .int v3_2001), (4, .int v4_2001), (5, .int v5_2001), (6, .int v6_2001), (7, .int v7_2001), (8, .int v8_2001), (10, .int v10_2002)]) hx hb dL_holds_570 hl (by decide) rfl (fun ls hl => ?_)
                        obtain ⟨v10_2027, ev10_2027⟩ : ∃ y : Int32, y = v10_2002 + 1 := ⟨_, rfl⟩
                        have hw := hw v10_2027 ev10_2027
                        refine lv_iinc (v := v10_2027) (lv' := [(10, .int v10_2027), (9, .int 0), (11, .int r_2012), (0, .ref (a 0)), (1, .int v1_2001), (2, .int v2_2001), (3, .int v3_2001), (4, .int v4_2001), (5, .int v5_2001), (6, .int v6_2001), (7, .int v7_2001), (8, .int v8_2001)]) hx hb dL_holds_572 hl (k := 11) rfl (by rw [ev10_2027]; rfl) (by decide) rfl (fun ls hl => ?_)
                        refine lv_goto (tgt := 420) hx hb dL_holds_575 (by decide) ?_
                        obtain ⟨n9, hlt9, hI9⟩ := hw
                        exact ih2002 n9 hlt9 _ _ _ _ _ hI9 hW (lv_sub hl [3, 4, 5, 6, 7, 8, 9, 10, 11, 1, 0] rfl)
                      · have hw := hw.2 hc
                        refine lv_aload_n hx hb dL_holds_537 rfl (lv_at hl 1 rfl) ?_
                        refine lv_iconst (v := 2) hx hb dL_holds_538 (by decide) ?_
                        refine kV_Mi (As := [.int 2]) (rest := []) ⟨hx, hb, hml, hown, hts⟩ (ok_X4_count_n l D cI cJ a _ _ _ _ hw) (cwV 1 hts gL_holds_X4_count rfl rfl rfl (by decide +kernel) ⟨Nat.le_of_ble_eq_true rfl, Nat.le_of_ble_eq_true rfl⟩) hK hW hA 0 rfl rfl rfl hl.1 rfl (Nat.le_of_ble_eq_true rfl) dL_holds_539 ⟨Nat.le_of_ble_eq_true rfl, Nat.le_of_ble_eq_true rfl⟩ (fun r_2028 _ H locs hw hW => ?_)
                        refine lv_iconst (v := 1) hx hb dL_holds_542 (by decide) ?_
                        refine lv_icmp_eq (tgt := 565) hx hb dL_holds_543 (by decide) (fun hc => ?_) (fun hc => ?_)
                        · have hw := hw.1 hc
                          refine lv_iconst (v := 1) hx hb dL_holds_565 (by decide) ?_
                          refine lv_goto (tgt := 570) hx hb dL_holds_566 (by decide) ?_
                          refine lv_istore (lv' := [(9, .int 1), (11, .int r_2012), (0, .ref (a 0)), (1, .int v1_2001), (2, .int v2_2001), (3, .int v3_2001), (4, .int v4_2001), (5, .int v5_2001), (6, .int v6_2001), (7, .int v7_2001), (8, .int v8_2001), (10, .int v10_2002)]) hx hb dL_holds_570 hl (by decide) rfl (fun ls hl => ?_)
                          obtain ⟨v10_2029, ev10_2029⟩ : ∃ y : Int32, y = v10_2002 + 1 := ⟨_, rfl⟩
                          have hw := hw v10_2029 ev10_2029
                          refine lv_iinc (v := v10_2029) (lv' := [(10, .int v10_2029), (9, .int 1), (11, .int r_2012), (0, .ref (a 0)), (1, .int v1_2001), (2, .int v2_2001), (3, .int v3_2001), (4, .int v4_2001), (5, .int v5_2001), (6, .int v6_2001), (7, .int v7_2001), (8, .int v8_2001)]) hx hb dL_holds_572 hl (k := 11) rfl (by rw [ev10_2029]; rfl) (by decide) rfl (fun ls hl => ?_)
                          refine lv_goto (tgt := 420) hx hb dL_holds_575 (by decide) ?_
                          obtain ⟨n9, hlt9, hI9⟩ := hw
                          exact ih2002 n9 hlt9 _ _ _ _ _ hI9 hW (lv_sub hl [3, 4, 5, 6, 7, 8, 9, 10, 11, 1, 0] rfl)
                        · have hw := hw.2 hc
                          refine lv_aload_n hx hb dL_holds_546 rfl (lv_at hl 1 rfl) ?_
                          refine lv_iload hx hb dL_holds_547 (lv_at hl 11 rfl) ?_
                          refine lv_bipush (v := 6) hx hb dL_holds_549 (by decide) ?_
                          refine lv_idiv hx hb dL_holds_551 (by decide) ?_
                          refine lv_iload hx hb dL_holds_552 (lv_at hl 11 rfl) ?_
                          refine lv_bipush (v := 6) hx hb dL_holds_554 (by decide) ?_
                          refine lv_irem hx hb dL_holds_556 (by decide) ?_
                          refine lv_iconst (v := 2) hx hb dL_holds_557 (by decide) ?_
                          refine kV_Mi (As := [.int (v10_2002 / 6), .int (v10_2002 - v10_2002 / 6 * 6), .int 2]) (rest := []) ⟨hx, hb, hml, hown, hts⟩ (ok_X4_sealed_n l D cI cJ a _ _ _ _ _ _ hw) (cwV 3 hts gL_holds_X4_sealed rfl rfl rfl (by decide +kernel) ⟨Nat.le_of_ble_eq_true rfl, Nat.le_of_ble_eq_true rfl⟩) hK hW hA 0 rfl rfl rfl hl.1 rfl (Nat.le_of_ble_eq_true rfl) dL_holds_558 ⟨Nat.le_of_ble_eq_true rfl, Nat.le_of_ble_eq_true rfl⟩ (fun r_2030 _ H locs hw hW => ?_)
                          refine lv_iconst (v := (-1)) hx hb dL_holds_561 (by decide) ?_
                          refine lv_icmp_ne (tgt := 569) hx hb dL_holds_562 (by decide) (fun hc => ?_) (fun hc => ?_)
                          · have hw := hw.1 hc
                            refine lv_iconst (v := 0) hx hb dL_holds_569 (by decide) ?_
                            refine lv_istore (lv' := [(9, .int 0), (11, .int r_2012), (0, .ref (a 0)), (1, .int v1_2001), (2, .int v2_2001), (3, .int v3_2001), (4, .int v4_2001), (5, .int v5_2001), (6, .int v6_2001), (7, .int v7_2001), (8, .int v8_2001), (10, .int v10_2002)]) hx hb dL_holds_570 hl (by decide) rfl (fun ls hl => ?_)
                            obtain ⟨v10_2031, ev10_2031⟩ : ∃ y : Int32, y = v10_2002 + 1 := ⟨_, rfl⟩
                            have hw := hw v10_2031 ev10_2031
                            refine lv_iinc (v := v10_2031) (lv' := [(10, .int v10_2031), (9, .int 0), (11, .int r_2012), (0, .ref (a 0)), (1, .int v1_2001), (2, .int v2_2001), (3, .int v3_2001), (4, .int v4_2001), (5, .int v5_2001), (6, .int v6_2001), (7, .int v7_2001), (8, .int v8_2001)]) hx hb dL_holds_572 hl (k := 11) rfl (by rw [ev10_2031]; rfl) (by decide) rfl (fun ls hl => ?_)
                            refine lv_goto (tgt := 420) hx hb dL_holds_575 (by decide) ?_
                            obtain ⟨n9, hlt9, hI9⟩ := hw
                            exact ih2002 n9 hlt9 _ _ _ _ _ hI9 hW (lv_sub hl [3, 4, 5, 6, 7, 8, 9, 10, 11, 1, 0] rfl)
                          · have hw := hw.2 hc
                            refine lv_iconst (v := 1) hx hb dL_holds_565 (by decide) ?_
                            refine lv_goto (tgt := 570) hx hb dL_holds_566 (by decide) ?_
                            refine lv_istore (lv' := [(9, .int 1), (11, .int r_2012), (0, .ref (a 0)), (1, .int v1_2001), (2, .int v2_2001), (3, .int v3_2001), (4, .int v4_2001), (5, .int v5_2001), (6, .int v6_2001), (7, .int v7_2001), (8, .int v8_2001), (10, .int v10_2002)]) hx hb dL_holds_570 hl (by decide) rfl (fun ls hl => ?_)
                            obtain ⟨v10_2032, ev10_2032⟩ : ∃ y : Int32, y = v10_2002 + 1 := ⟨_, rfl⟩
                            have hw := hw v10_2032 ev10_2032
                            refine lv_iinc (v := v10_2032) (lv' := [(10, .int v10_2032), (9, .int 1), (11, .int r_2012), (0, .ref (a 0)), (1, .int v1_2001), (2, .int v2_2001), (3, .int v3_2001), (4, .int v4_2001), (5, .int v5_2001), (6, .int v6_2001), (7, .int v7_2001), (8, .int v8_2001)]) hx hb dL_holds_572 hl (k := 11) rfl (by rw [ev10_2032]; rfl) (by decide) rfl (fun ls hl => ?_)
                            refine lv_goto (tgt := 420) hx hb dL_holds_575 (by decide) ?_
                            obtain ⟨n9, hlt9, hI9⟩ := hw
                            exact ih2002 n9 hlt9 _ _ _ _ _ hI9 hW (lv_sub hl [3, 4, 5, 6, 7, 8, 9, 10, 11, 1, 0] rfl)
    · have hw := hw.2 hc
      refine lv_aload_n hx hb dL_holds_142 rfl (lv_at hl 0 rfl) ?_
      refine lv_iload hx hb dL_holds_143 (lv_at hl 10 rfl) ?_
      refine lv_iconst (v := 2) hx hb dL_holds_145 (by decide) ?_
      refine kV_Mi (As := [.int v10_2001, .int 2]) (rest := []) ⟨hx, hb, hml, hown, hts⟩ (ok_X4_spot_n l D cI cJ a _ _ _ _ _ hw) (cwV 2 hts gL_holds_X4_spot rfl rfl rfl (by decide +kernel) ⟨Nat.le_of_ble_eq_true rfl, Nat.le_of_ble_eq_true rfl⟩) hK hW hA 0 rfl rfl rfl hl.1 rfl (Nat.le_of_ble_eq_true rfl) dL_holds_146 ⟨Nat.le_of_ble_eq_true rfl, Nat.le_of_ble_eq_true rfl⟩ (fun r_2033 _ H locs hw hW => ?_)
      refine lv_istore (lv' := [(11, .int r_2033), (0, .ref (a 0)), (1, .int v1_2001), (2, .int v2_2001), (3, .int v3_2001), (4, .int v4_2001), (5, .int v5_2001), (6, .int v6_2001), (7, .int v7_2001), (8, .int v8_2001), (9, .int v9_2001), (10, .int v10_2001)]) hx hb dL_holds_149 hl (by decide) rfl (fun ls hl => ?_)
      refine lv_iload_n hx hb dL_holds_151 rfl (lv_at hl 2 rfl) ?_
      refine lv_aload_n hx hb dL_holds_152 rfl (lv_at hl 1 rfl) ?_
      refine lv_iload hx hb dL_holds_153 (lv_at hl 11 rfl) ?_
      refine lv_iconst (v := 0) hx hb dL_holds_155 (by decide) ?_
      refine kV_Mi (As := [.int v10_2001, .int 0]) (rest := [.int v1_2001]) ⟨hx, hb, hml, hown, hts⟩ (ok_X4_bidder_n l D cI cJ a _ _ _ _ _ hw) (cwV 2 hts gL_holds_X4_bidder rfl rfl rfl (by decide +kernel) ⟨Nat.le_of_ble_eq_true rfl, Nat.le_of_ble_eq_true rfl⟩) hK hW hA 0 rfl rfl rfl hl.1 rfl (Nat.le_of_ble_eq_true rfl) dL_holds_156 ⟨Nat.le_of_ble_eq_true rfl, Nat.le_of_ble_eq_true rfl⟩ (fun r_2034 _ H locs hw hW => ?_)
      refine lv_iadd hx hb dL_holds_159 ?_
      refine lv_topi (fun v1_2035 ev1_2035 => ?_)
      have hw := hw v1_2035 ev1_2035
      refine lv_istore_n (lv' := [(1, .int v1_2035), (11, .int r_2033), (0, .ref (a 0)), (2, .int v2_2001), (3, .int v3_2001), (4, .int v4_2001), (5, .int v5_2001), (6, .int v6_2001), (7, .int v7_2001), (8, .int v8_2001), (9, .int v9_2001), (10, .int v10_2001)]) hx hb dL_holds_160 rfl hl (by decide) rfl (fun ls hl => ?_)
      refine lv_iload_n hx hb dL_holds_161 rfl (lv_at hl 3 rfl) ?_
      refine lv_aload_n hx hb dL_holds_162 rfl (lv_at hl 2 rfl) ?_
      refine lv_iload hx hb dL_holds_163 (lv_at hl 11 rfl) ?_
      refine lv_iconst (v := 1) hx hb dL_holds_165 (by decide) ?_
      refine kV_Mi (As := [.int v10_2001, .int 1]) (rest := [.int v2_2001]) ⟨hx, hb, hml, hown, hts⟩ (ok_X4_spot_n l D cI cJ a _ _ _ _ _ hw) (cwV 2 hts gL_holds_X4_spot rfl rfl rfl (by decide +kernel) ⟨Nat.le_of_ble_eq_true rfl, Nat.le_of_ble_eq_true rfl⟩) hK hW hA 0 rfl rfl rfl hl.1 rfl (Nat.le_of_ble_eq_true rfl) dL_holds_166 ⟨Nat.le_of_ble_eq_true rfl, Nat.le_of_ble_eq_true rfl⟩ (fun r_2036 _ H locs hw hW => ?_)
      refine lv_iadd hx hb dL_holds_169 ?_
      refine lv_topi (fun v2_2037 ev2_2037 => ?_)
      have hw := hw v2_2037 ev2_2037
      refine lv_istore_n (lv' := [(2, .int v2_2037), (1, .int v1_2035), (11, .int r_2033), (0, .ref (a 0)), (3, .int v3_2001), (4, .int v4_2001), (5, .int v5_2001), (6, .int v6_2001), (7, .int v7_2001), (8, .int v8_2001), (9, .int v9_2001), (10, .int v10_2001)]) hx hb dL_holds_170 rfl hl (by decide) rfl (fun ls hl => ?_)
      refine lv_iload_n hx hb dL_holds_171 rfl (lv_at hl 4 rfl) ?_
      refine lv_aload_n hx hb dL_holds_172 rfl (lv_at hl 3 rfl) ?_
      refine lv_iload hx hb dL_holds_173 (lv_at hl 11 rfl) ?_
      refine lv_iconst (v := 4) hx hb dL_holds_175 (by decide) ?_
      refine kV_Mi (As := [.int v10_2001, .int 4]) (rest := [.int v3_2001]) ⟨hx, hb, hml, hown, hts⟩ (ok_X4_spot_n l D cI cJ a _ _ _ _ _ hw) (cwV 2 hts gL_holds_X4_spot rfl rfl rfl (by decide +kernel) ⟨Nat.le_of_ble_eq_true rfl, Nat.le_of_ble_eq_true rfl⟩) hK hW hA 0 rfl rfl rfl hl.1 rfl (Nat.le_of_ble_eq_true rfl) dL_holds_176 ⟨Nat.le_of_ble_eq_true rfl, Nat.le_of_ble_eq_true rfl⟩ (fun r_2038 _ H locs hw hW => ?_)
      refine lv_iadd hx hb dL_holds_179 ?_
      refine lv_topi (fun v3_2039 ev3_2039 => ?_)
      have hw := hw v3_2039 ev3_2039
      refine lv_istore_n (lv' := [(3, .int v3_2039), (2, .int v2_2037), (1, .int v1_2035), (11, .int r_2033), (0, .ref (a 0)), (4, .int v4_2001), (5, .int v5_2001), (6, .int v6_2001), (7, .int v7_2001), (8, .int v8_2001), (9, .int v9_2001), (10, .int v10_2001)]) hx hb dL_holds_180 rfl hl (by decide) rfl (fun ls hl => ?_)
      refine lv_iload hx hb dL_holds_181 (lv_at hl 5 rfl) ?_
      refine lv_aload_n hx hb dL_holds_183 rfl (lv_at hl 4 rfl) ?_
      refine lv_iload hx hb dL_holds_184 (lv_at hl 11 rfl) ?_
      refine lv_iconst (v := 2) hx hb dL_holds_186 (by decide) ?_
      refine kV_Mi (As := [.int v10_2001, .int 2]) (rest := [.int v4_2001]) ⟨hx, hb, hml, hown, hts⟩ (ok_X4_bidder_n l D cI cJ a _ _ _ _ _ hw) (cwV 2 hts gL_holds_X4_bidder rfl rfl rfl (by decide +kernel) ⟨Nat.le_of_ble_eq_true rfl, Nat.le_of_ble_eq_true rfl⟩) hK hW hA 0 rfl rfl rfl hl.1 rfl (Nat.le_of_ble_eq_true rfl) dL_holds_187 ⟨Nat.le_of_ble_eq_true rfl, Nat.le_of_ble_eq_true rfl⟩ (fun r_2040 _ H locs hw hW => ?_)
      refine lv_iadd hx hb dL_holds_190 ?_
      refine lv_topi (fun v4_2041 ev4_2041 => ?_)
      have hw := hw v4_2041 ev4_2041
      refine lv_istore (lv' := [(4, .int v4_2041), (3, .int v3_2039), (2, .int v2_2037), (1, .int v1_2035), (11, .int r_2033), (0, .ref (a 0)), (5, .int v5_2001), (6, .int v6_2001), (7, .int v7_2001), (8, .int v8_2001), (9, .int v9_2001), (10, .int v10_2001)]) hx hb dL_holds_191 hl (by decide) rfl (fun ls hl => ?_)
      refine lv_iload hx hb dL_holds_193 (lv_at hl 6 rfl) ?_
      refine lv_aload_n hx hb dL_holds_195 rfl (lv_at hl 5 rfl) ?_
      refine lv_iload hx hb dL_holds_196 (lv_at hl 11 rfl) ?_
      refine lv_iconst (v := 5) hx hb dL_holds_198 (by decide) ?_
      refine kV_Mi (As := [.int v10_2001, .int 5]) (rest := [.int v5_2001]) ⟨hx, hb, hml, hown, hts⟩ (ok_X4_spot_n l D cI cJ a _ _ _ _ _ hw) (cwV 2 hts gL_holds_X4_spot rfl rfl rfl (by decide +kernel) ⟨Nat.le_of_ble_eq_true rfl, Nat.le_of_ble_eq_true rfl⟩) hK hW hA 0 rfl rfl rfl hl.1 rfl (Nat.le_of_ble_eq_true rfl) dL_holds_199 ⟨Nat.le_of_ble_eq_true rfl, Nat.le_of_ble_eq_true rfl⟩ (fun r_2042 _ H locs hw hW => ?_)
      refine lv_iadd hx hb dL_holds_202 ?_
      refine lv_topi (fun v5_2043 ev5_2043 => ?_)
      have hw := hw v5_2043 ev5_2043
      refine lv_istore (lv' := [(5, .int v5_2043), (4, .int v4_2041), (3, .int v3_2039), (2, .int v2_2037), (1, .int v1_2035), (11, .int r_2033), (0, .ref (a 0)), (6, .int v6_2001), (7, .int v7_2001), (8, .int v8_2001), (9, .int v9_2001), (10, .int v10_2001)]) hx hb dL_holds_203 hl (by decide) rfl (fun ls hl => ?_)
      refine lv_iload hx hb dL_holds_205 (lv_at hl 7 rfl) ?_
      refine lv_aload_n hx hb dL_holds_207 rfl (lv_at hl 6 rfl) ?_
      refine lv_iload hx hb dL_holds_208 (lv_at hl 11 rfl) ?_
      refine lv_iconst (v := 1) hx hb dL_holds_210 (by decide) ?_
      refine kV_Mi (As := [.int v10_2001, .int 1]) (rest := [.int v6_2001]) ⟨hx, hb, hml, hown, hts⟩ (ok_X4_bidder_n l D cI cJ a _ _ _ _ _ hw) (cwV 2 hts gL_holds_X4_bidder rfl rfl rfl (by decide +kernel) ⟨Nat.le_of_ble_eq_true rfl, Nat.le_of_ble_eq_true rfl⟩) hK hW hA 0 rfl rfl rfl hl.1 rfl (Nat.le_of_ble_eq_true rfl) dL_holds_211 ⟨Nat.le_of_ble_eq_true rfl, Nat.le_of_ble_eq_true rfl⟩ (fun r_2044 _ H locs hw hW => ?_)
      refine lv_iadd hx hb dL_holds_214 ?_
      refine lv_topi (fun v6_2045 ev6_2045 => ?_)
      have hw := hw v6_2045 ev6_2045
      refine lv_istore (lv' := [(6, .int v6_2045), (5, .int v5_2043), (4, .int v4_2041), (3, .int v3_2039), (2, .int v2_2037), (1, .int v1_2035), (11, .int r_2033), (0, .ref (a 0)), (7, .int v7_2001), (8, .int v8_2001), (9, .int v9_2001), (10, .int v10_2001)]) hx hb dL_holds_215 hl (by decide) rfl (fun ls hl => ?_)
      refine lv_iload hx hb dL_holds_217 (lv_at hl 8 rfl) ?_
      refine lv_aload_n hx hb dL_holds_219 rfl (lv_at hl 7 rfl) ?_
      refine lv_iload hx hb dL_holds_220 (lv_at hl 11 rfl) ?_
      refine lv_iconst (v := 4) hx hb dL_holds_222 (by decide) ?_
      refine kV_Mi (As := [.int v10_2001, .int 4]) (rest := [.int v7_2001]) ⟨hx, hb, hml, hown, hts⟩ (ok_X4_bidder_n l D cI cJ a _ _ _ _ _ hw) (cwV 2 hts gL_holds_X4_bidder rfl rfl rfl (by decide +kernel) ⟨Nat.le_of_ble_eq_true rfl, Nat.le_of_ble_eq_true rfl⟩) hK hW hA 0 rfl rfl rfl hl.1 rfl (Nat.le_of_ble_eq_true rfl) dL_holds_223 ⟨Nat.le_of_ble_eq_true rfl, Nat.le_of_ble_eq_true rfl⟩ (fun r_2046 _ H locs hw hW => ?_)
      refine lv_iadd hx hb dL_holds_226 ?_
      refine lv_topi (fun v7_2047 ev7_2047 => ?_)
      have hw := hw v7_2047 ev7_2047
      refine lv_istore (lv' := [(7, .int v7_2047), (6, .int v6_2045), (5, .int v5_2043), (4, .int v4_2041), (3, .int v3_2039), (2, .int v2_2037), (1, .int v1_2035), (11, .int r_2033), (0, .ref (a 0)), (8, .int v8_2001), (9, .int v9_2001), (10, .int v10_2001)]) hx hb dL_holds_227 hl (by decide) rfl (fun ls hl => ?_)
      refine lv_iload hx hb dL_holds_229 (lv_at hl 9 rfl) ?_
      refine lv_aload_n hx hb dL_holds_231 rfl (lv_at hl 8 rfl) ?_
      refine lv_iload hx hb dL_holds_232 (lv_at hl 11 rfl) ?_
      refine lv_iconst (v := 5) hx hb dL_holds_234 (by decide) ?_
      refine kV_Mi (As := [.int v10_2001, .int 5]) (rest := [.int v8_2001]) ⟨hx, hb, hml, hown, hts⟩ (ok_X4_bidder_n l D cI cJ a _ _ _ _ _ hw) (cwV 2 hts gL_holds_X4_bidder rfl rfl rfl (by decide +kernel) ⟨Nat.le_of_ble_eq_true rfl, Nat.le_of_ble_eq_true rfl⟩) hK hW hA 0 rfl rfl rfl hl.1 rfl (Nat.le_of_ble_eq_true rfl) dL_holds_235 ⟨Nat.le_of_ble_eq_true rfl, Nat.le_of_ble_eq_true rfl⟩ (fun r_2048 _ H locs hw hW => ?_)
      refine lv_iadd hx hb dL_holds_238 ?_
      refine lv_topi (fun v8_2049 ev8_2049 => ?_)
      have hw := hw v8_2049 ev8_2049
      refine lv_istore (lv' := [(8, .int v8_2049), (7, .int v7_2047), (6, .int v6_2045), (5, .int v5_2043), (4, .int v4_2041), (3, .int v3_2039), (2, .int v2_2037), (1, .int v1_2035), (11, .int r_2033), (0, .ref (a 0)), (9, .int v9_2001), (10, .int v10_2001)]) hx hb dL_holds_239 hl (by decide) rfl (fun ls hl => ?_)
      refine lv_iload hx hb dL_holds_241 (lv_at hl 10 rfl) ?_
      refine lv_if_eq (tgt := 368) hx hb dL_holds_243 (by decide) (fun hc => ?_) (fun hc => ?_)
      · have hw := hw.1 hc
        refine lv_iconst (v := 0) hx hb dL_holds_368 (by decide) ?_
        refine lv_istore (lv' := [(9, .int 0), (8, .int v8_2049), (7, .int v7_2047), (6, .int v6_2045), (5, .int v5_2043), (4, .int v4_2041), (3, .int v3_2039), (2, .int v2_2037), (1, .int v1_2035), (11, .int r_2033), (0, .ref (a 0)), (10, .int v10_2001)]) hx hb dL_holds_369 hl (by decide) rfl (fun ls hl => ?_)
        refine lv_iload hx hb dL_holds_371 (lv_at hl 0 rfl) ?_
        refine lv_if_eq (tgt := 408) hx hb dL_holds_373 (by decide) (fun _ => ?_) (fun hc => absurd (by decide) hc)
        refine lv_iconst (v := 0) hx hb dL_holds_408 (by decide) ?_
        refine lv_istore (lv' := [(9, .int 0), (8, .int v8_2049), (7, .int v7_2047), (6, .int v6_2045), (5, .int v5_2043), (4, .int v4_2041), (3, .int v3_2039), (2, .int v2_2037), (1, .int v1_2035), (11, .int r_2033), (0, .ref (a 0)), (10, .int v10_2001)]) hx hb dL_holds_409 hl (by decide) rfl (fun ls hl => ?_)
        obtain ⟨v10_2050, ev10_2050⟩ : ∃ y : Int32, y = v10_2001 + 1 := ⟨_, rfl⟩
        have hw := hw v10_2050 ev10_2050
        refine lv_iinc (v := v10_2050) (lv' := [(10, .int v10_2050), (9, .int 0), (8, .int v8_2049), (7, .int v7_2047), (6, .int v6_2045), (5, .int v5_2043), (4, .int v4_2041), (3, .int v3_2039), (2, .int v2_2037), (1, .int v1_2035), (11, .int r_2033), (0, .ref (a 0))]) hx hb dL_holds_411 hl (k := 11) rfl (by rw [ev10_2050]; rfl) (by decide) rfl (fun ls hl => ?_)
        refine lv_goto (tgt := 135) hx hb dL_holds_414 (by decide) ?_
        obtain ⟨n9, hlt9, hI9⟩ := hw
        exact ih2001 n9 hlt9 _ _ _ _ _ _ _ _ _ _ _ _ _ hI9 hW (lv_sub hl [11, 9, 8, 7, 6, 5, 4, 3, 2, 1, 0] rfl)
      · have hw := hw.2 hc
        refine lv_aload_n hx hb dL_holds_246 rfl (lv_at hl 9 rfl) ?_
        refine lv_iload hx hb dL_holds_247 (lv_at hl 11 rfl) ?_
        refine lv_iconst (v := 0) hx hb dL_holds_249 (by decide) ?_
        refine kV_Mi (As := [.int v10_2001, .int 0]) (rest := []) ⟨hx, hb, hml, hown, hts⟩ (ok_X4_bidder_n l D cI cJ a _ _ _ _ _ hw) (cwV 2 hts gL_holds_X4_bidder rfl rfl rfl (by decide +kernel) ⟨Nat.le_of_ble_eq_true rfl, Nat.le_of_ble_eq_true rfl⟩) hK hW hA 0 rfl rfl rfl hl.1 rfl (Nat.le_of_ble_eq_true rfl) dL_holds_250 ⟨Nat.le_of_ble_eq_true rfl, Nat.le_of_ble_eq_true rfl⟩ (fun r_2051 _ H locs hw hW => ?_)
        refine lv_if_lt (tgt := 368) hx hb dL_holds_253 (by decide) (fun hc => ?_) (fun hc => ?_)
        · have hw := hw.1 hc
          refine lv_iconst (v := 0) hx hb dL_holds_368 (by decide) ?_
          refine lv_istore (lv' := [(9, .int 0), (8, .int v8_2049), (7, .int v7_2047), (6, .int v6_2045), (5, .int v5_2043), (4, .int v4_2041), (3, .int v3_2039), (2, .int v2_2037), (1, .int v1_2035), (11, .int r_2033), (0, .ref (a 0)), (10, .int v10_2001)]) hx hb dL_holds_369 hl (by decide) rfl (fun ls hl => ?_)
          refine lv_iload hx hb dL_holds_371 (lv_at hl 0 rfl) ?_
          refine lv_if_eq (tgt := 408) hx hb dL_holds_373 (by decide) (fun _ => ?_) (fun hc => absurd (by decide) hc)
          refine lv_iconst (v := 0) hx hb dL_holds_408 (by decide) ?_
          refine lv_istore (lv' := [(9, .int 0), (8, .int v8_2049), (7, .int v7_2047), (6, .int v6_2045), (5, .int v5_2043), (4, .int v4_2041), (3, .int v3_2039), (2, .int v2_2037), (1, .int v1_2035), (11, .int r_2033), (0, .ref (a 0)), (10, .int v10_2001)]) hx hb dL_holds_409 hl (by decide) rfl (fun ls hl => ?_)
          obtain ⟨v10_2052, ev10_2052⟩ : ∃ y : Int32, y = v10_2001 + 1 := ⟨_, rfl⟩
          have hw := hw v10_2052 ev10_2052
          refine lv_iinc (v := v10_2052) (lv' := [(10, .int v10_2052), (9, .int 0), (8, .int v8_2049), (7, .int v7_2047), (6, .int v6_2045), (5, .int v5_2043), (4, .int v4_2041), (3, .int v3_2039), (2, .int v2_2037), (1, .int v1_2035), (11, .int r_2033), (0, .ref (a 0))]) hx hb dL_holds_411 hl (k := 11) rfl (by rw [ev10_2052]; rfl) (by decide) rfl (fun ls hl => ?_)
          refine lv_goto (tgt := 135) hx hb dL_holds_414 (by decide) ?_
          obtain ⟨n9, hlt9, hI9⟩ := hw
          exact ih2001 n9 hlt9 _ _ _ _ _ _ _ _ _ _ _ _ _ hI9 hW (lv_sub hl [11, 9, 8, 7, 6, 5, 4, 3, 2, 1, 0] rfl)
        · have hw := hw.2 hc
          refine lv_aload_n hx hb dL_holds_256 rfl (lv_at hl 9 rfl) ?_
          refine lv_iload hx hb dL_holds_257 (lv_at hl 11 rfl) ?_
          refine lv_iconst (v := 1) hx hb dL_holds_259 (by decide) ?_
          refine kV_Mi (As := [.int v10_2001, .int 1]) (rest := []) ⟨hx, hb, hml, hown, hts⟩ (ok_X4_spot_n l D cI cJ a _ _ _ _ _ hw) (cwV 2 hts gL_holds_X4_spot rfl rfl rfl (by decide +kernel) ⟨Nat.le_of_ble_eq_true rfl, Nat.le_of_ble_eq_true rfl⟩) hK hW hA 0 rfl rfl rfl hl.1 rfl (Nat.le_of_ble_eq_true rfl) dL_holds_260 ⟨Nat.le_of_ble_eq_true rfl, Nat.le_of_ble_eq_true rfl⟩ (fun r_2053 _ H locs hw hW => ?_)
          refine lv_if_lt (tgt := 368) hx hb dL_holds_263 (by decide) (fun hc => ?_) (fun hc => ?_)
          · have hw := hw.1 hc
            refine lv_iconst (v := 0) hx hb dL_holds_368 (by decide) ?_
            refine lv_istore (lv' := [(9, .int 0), (8, .int v8_2049), (7, .int v7_2047), (6, .int v6_2045), (5, .int v5_2043), (4, .int v4_2041), (3, .int v3_2039), (2, .int v2_2037), (1, .int v1_2035), (11, .int r_2033), (0, .ref (a 0)), (10, .int v10_2001)]) hx hb dL_holds_369 hl (by decide) rfl (fun ls hl => ?_)
            refine lv_iload hx hb dL_holds_371 (lv_at hl 0 rfl) ?_
            refine lv_if_eq (tgt := 408) hx hb dL_holds_373 (by decide) (fun _ => ?_) (fun hc => absurd (by decide) hc)
            refine lv_iconst (v := 0) hx hb dL_holds_408 (by decide) ?_
            refine lv_istore (lv' := [(9, .int 0), (8, .int v8_2049), (7, .int v7_2047), (6, .int v6_2045), (5, .int v5_2043), (4, .int v4_2041), (3, .int v3_2039), (2, .int v2_2037), (1, .int v1_2035), (11, .int r_2033), (0, .ref (a 0)), (10, .int v10_2001)]) hx hb dL_holds_409 hl (by decide) rfl (fun ls hl => ?_)
            obtain ⟨v10_2054, ev10_2054⟩ : ∃ y : Int32, y = v10_2001 + 1 := ⟨_, rfl⟩
            have hw := hw v10_2054 ev10_2054
            refine lv_iinc (v := v10_2054) (lv' := [(10, .int v10_2054), (9, .int 0), (8, .int v8_2049), (7, .int v7_2047), (6, .int v6_2045), (5, .int v5_2043), (4, .int v4_2041), (3, .int v3_2039), (2, .int v2_2037), (1, .int v1_2035), (11, .int r_2033), (0, .ref (a 0))]) hx hb dL_holds_411 hl (k := 11) rfl (by rw [ev10_2054]; rfl) (by decide) rfl (fun ls hl => ?_)
            refine lv_goto (tgt := 135) hx hb dL_holds_414 (by decide) ?_
            obtain ⟨n9, hlt9, hI9⟩ := hw
            exact ih2001 n9 hlt9 _ _ _ _ _ _ _ _ _ _ _ _ _ hI9 hW (lv_sub hl [11, 9, 8, 7, 6, 5, 4, 3, 2, 1, 0] rfl)
          · have hw := hw.2 hc
            refine lv_aload_n hx hb dL_holds_266 rfl (lv_at hl 9 rfl) ?_
            refine lv_iload hx hb dL_holds_267 (lv_at hl 11 rfl) ?_
            refine lv_iconst (v := 1) hx hb dL_holds_269 (by decide) ?_
            refine kV_Mi (As := [.int v10_2001, .int 1]) (rest := []) ⟨hx, hb, hml, hown, hts⟩ (ok_X4_spot_n l D cI cJ a _ _ _ _ _ hw) (cwV 2 hts gL_holds_X4_spot rfl rfl rfl (by decide +kernel) ⟨Nat.le_of_ble_eq_true rfl, Nat.le_of_ble_eq_true rfl⟩) hK hW hA 0 rfl rfl rfl hl.1 rfl (Nat.le_of_ble_eq_true rfl) dL_holds_270 ⟨Nat.le_of_ble_eq_true rfl, Nat.le_of_ble_eq_true rfl⟩ (fun r_2055 _ H locs hw hW => ?_)
            refine lv_sipush (v := 200) hx hb dL_holds_273 (by decide) ?_
            refine lv_icmp_gt (tgt := 368) hx hb dL_holds_276 (by decide) (fun hc => ?_) (fun hc => ?_)
            · have hw := hw.1 hc
              refine lv_iconst (v := 0) hx hb dL_holds_368 (by decide) ?_
              refine lv_istore (lv' := [(9, .int 0), (8, .int v8_2049), (7, .int v7_2047), (6, .int v6_2045), (5, .int v5_2043), (4, .int v4_2041), (3, .int v3_2039), (2, .int v2_2037), (1, .int v1_2035), (11, .int r_2033), (0, .ref (a 0)), (10, .int v10_2001)]) hx hb dL_holds_369 hl (by decide) rfl (fun ls hl => ?_)
              refine lv_iload hx hb dL_holds_371 (lv_at hl 0 rfl) ?_
              refine lv_if_eq (tgt := 408) hx hb dL_holds_373 (by decide) (fun _ => ?_) (fun hc => absurd (by decide) hc)
              refine lv_iconst (v := 0) hx hb dL_holds_408 (by decide) ?_
              refine lv_istore (lv' := [(9, .int 0), (8, .int v8_2049), (7, .int v7_2047), (6, .int v6_2045), (5, .int v5_2043), (4, .int v4_2041), (3, .int v3_2039), (2, .int v2_2037), (1, .int v1_2035), (11, .int r_2033), (0, .ref (a 0)), (10, .int v10_2001)]) hx hb dL_holds_409 hl (by decide) rfl (fun ls hl => ?_)
              obtain ⟨v10_2056, ev10_2056⟩ : ∃ y : Int32, y = v10_2001 + 1 := ⟨_, rfl⟩
              have hw := hw v10_2056 ev10_2056
              refine lv_iinc (v := v10_2056) (lv' := [(10, .int v10_2056), (9, .int 0), (8, .int v8_2049), (7, .int v7_2047), (6, .int v6_2045), (5, .int v5_2043), (4, .int v4_2041), (3, .int v3_2039), (2, .int v2_2037), (1, .int v1_2035), (11, .int r_2033), (0, .ref (a 0))]) hx hb dL_holds_411 hl (k := 11) rfl (by rw [ev10_2056]; rfl) (by decide) rfl (fun ls hl => ?_)
              refine lv_goto (tgt := 135) hx hb dL_holds_414 (by decide) ?_
              obtain ⟨n9, hlt9, hI9⟩ := hw
              exact ih2001 n9 hlt9 _ _ _ _ _ _ _ _ _ _ _ _ _ hI9 hW (lv_sub hl [11, 9, 8, 7, 6, 5, 4, 3, 2, 1, 0] rfl)
            · have hw := hw.2 hc
              refine lv_iload hx hb dL_holds_279 (lv_at hl 8 rfl) ?_
              refine lv_iconst (v := (-1)) hx hb dL_holds_281 (by decide) ?_
              refine lv_icmp_ne (tgt := 289) hx hb dL_holds_282 (by decide) (fun hc => ?_) (fun hc => ?_)
              · have hw := hw.1 hc
                refine lv_iconst (v := 0) hx hb dL_holds_289 (by decide) ?_
                refine lv_aload_n hx hb dL_holds_290 rfl (lv_at hl 9 rfl) ?_
                refine lv_iload hx hb dL_holds_291 (lv_at hl 11 rfl) ?_
                refine lv_iconst (v := 3) hx hb dL_holds_293 (by decide) ?_
                refine kV_Mi (As := [.int v10_2001, .int 3]) (rest := [.int 0]) ⟨hx, hb, hml, hown, hts⟩ (ok_X4_spot_n l D cI cJ a _ _ _ _ _ hw) (cwV 2 hts gL_holds_X4_spot rfl rfl rfl (by decide +kernel) ⟨Nat.le_of_ble_eq_true rfl, Nat.le_of_ble_eq_true rfl⟩) hK hW hA 0 rfl rfl rfl hl.1 rfl (Nat.le_of_ble_eq_true rfl) dL_holds_294 ⟨Nat.le_of_ble_eq_true rfl, Nat.le_of_ble_eq_true rfl⟩ (fun r_2057 _ H locs hw hW => ?_)
                refine lv_iconst (v := (-1)) hx hb dL_holds_297 (by decide) ?_
                refine lv_icmp_ne (tgt := 305) hx hb dL_holds_298 (by decide) (fun hc => ?_) (fun hc => ?_)
                · have hw := hw.1 hc
                  refine lv_iconst (v := 0) hx hb dL_holds_305 (by decide) ?_
                  refine lv_icmp_ne (tgt := 368) hx hb dL_holds_306 (by decide) (fun hc => absurd hc (by decide)) (fun _ => ?_)
                  refine lv_iload hx hb dL_holds_309 (lv_at hl 8 rfl) ?_
                  refine lv_if_lt (tgt := 364) hx hb dL_holds_311 (by decide) (fun hc => ?_) (fun hc => ?_)
                  · have hw := hw.1 hc
                    refine lv_iconst (v := 1) hx hb dL_holds_364 (by decide) ?_
                    refine lv_goto (tgt := 369) hx hb dL_holds_365 (by decide) ?_
                    refine lv_istore (lv' := [(9, .int 1), (8, .int v8_2049), (7, .int v7_2047), (6, .int v6_2045), (5, .int v5_2043), (4, .int v4_2041), (3, .int v3_2039), (2, .int v2_2037), (1, .int v1_2035), (11, .int r_2033), (0, .ref (a 0)), (10, .int v10_2001)]) hx hb dL_holds_369 hl (by decide) rfl (fun ls hl => ?_)
                    refine lv_iload hx hb dL_holds_371 (lv_at hl 0 rfl) ?_
                    refine lv_if_eq (tgt := 408) hx hb dL_holds_373 (by decide) (fun hc => absurd hc (by decide)) (fun _ => ?_)
                    refine lv_aload_n hx hb dL_holds_376 rfl (lv_at hl 10 rfl) ?_
                    refine lv_iload hx hb dL_holds_377 (lv_at hl 11 rfl) ?_
                    refine lv_iconst (v := 3) hx hb dL_holds_379 (by decide) ?_
                    refine kV_Mi (As := [.int v10_2001, .int 3]) (rest := []) ⟨hx, hb, hml, hown, hts⟩ (ok_X4_bidder_n l D cI cJ a _ _ _ _ _ hw) (cwV 2 hts gL_holds_X4_bidder rfl rfl rfl (by decide +kernel) ⟨Nat.le_of_ble_eq_true rfl, Nat.le_of_ble_eq_true rfl⟩) hK hW hA 0 rfl rfl rfl hl.1 rfl (Nat.le_of_ble_eq_true rfl) dL_holds_380 ⟨Nat.le_of_ble_eq_true rfl, Nat.le_of_ble_eq_true rfl⟩ (fun r_2058 _ H locs hw hW => ?_)
                    refine lv_iconst (v := (-1)) hx hb dL_holds_383 (by decide) ?_
                    refine lv_icmp_eq (tgt := 404) hx hb dL_holds_384 (by decide) (fun hc => ?_) (fun hc => ?_)
                    · have hw := hw.1 hc
                      refine lv_iconst (v := 1) hx hb dL_holds_404 (by decide) ?_
                      refine lv_goto (tgt := 409) hx hb dL_holds_405 (by decide) ?_
                      refine lv_istore (lv' := [(9, .int 1), (8, .int v8_2049), (7, .int v7_2047), (6, .int v6_2045), (5, .int v5_2043), (4, .int v4_2041), (3, .int v3_2039), (2, .int v2_2037), (1, .int v1_2035), (11, .int r_2033), (0, .ref (a 0)), (10, .int v10_2001)]) hx hb dL_holds_409 hl (by decide) rfl (fun ls hl => ?_)
                      obtain ⟨v10_2059, ev10_2059⟩ : ∃ y : Int32, y = v10_2001 + 1 := ⟨_, rfl⟩
                      have hw := hw v10_2059 ev10_2059
                      refine lv_iinc (v := v10_2059) (lv' := [(10, .int v10_2059), (9, .int 1), (8, .int v8_2049), (7, .int v7_2047), (6, .int v6_2045), (5, .int v5_2043), (4, .int v4_2041), (3, .int v3_2039), (2, .int v2_2037), (1, .int v1_2035), (11, .int r_2033), (0, .ref (a 0))]) hx hb dL_holds_411 hl (k := 11) rfl (by rw [ev10_2059]; rfl) (by decide) rfl (fun ls hl => ?_)
                      refine lv_goto (tgt := 135) hx hb dL_holds_414 (by decide) ?_
                      obtain ⟨n9, hlt9, hI9⟩ := hw
                      exact ih2001 n9 hlt9 _ _ _ _ _ _ _ _ _ _ _ _ _ hI9 hW (lv_sub hl [11, 9, 8, 7, 6, 5, 4, 3, 2, 1, 0] rfl)
                    · have hw := hw.2 hc
                      refine lv_aload_n hx hb dL_holds_387 rfl (lv_at hl 10 rfl) ?_
                      refine lv_aload_n hx hb dL_holds_388 rfl (lv_at hl 10 rfl) ?_
                      refine lv_iload hx hb dL_holds_389 (lv_at hl 11 rfl) ?_
                      refine lv_iconst (v := 3) hx hb dL_holds_391 (by decide) ?_
                      refine kV_Mi (As := [.int v10_2001, .int 3]) (rest := [.ref (a 0)]) ⟨hx, hb, hml, hown, hts⟩ (ok_X4_bidder_n l D cI cJ a _ _ _ _ _ hw) (cwV 2 hts gL_holds_X4_bidder rfl rfl rfl (by decide +kernel) ⟨Nat.le_of_ble_eq_true rfl, Nat.le_of_ble_eq_true rfl⟩) hK hW hA 0 rfl rfl rfl hl.1 rfl (Nat.le_of_ble_eq_true rfl) dL_holds_392 ⟨Nat.le_of_ble_eq_true rfl, Nat.le_of_ble_eq_true rfl⟩ (fun r_2060 _ H locs hw hW => ?_)
                      refine lv_iconst (v := 2) hx hb dL_holds_395 (by decide) ?_
                      refine kV_Mi (As := [.int r_2060, .int 2]) (rest := []) ⟨hx, hb, hml, hown, hts⟩ (ok_X4_spot_n l D cI cJ a _ _ _ _ _ hw) (cwV 2 hts gL_holds_X4_spot rfl rfl rfl (by decide +kernel) ⟨Nat.le_of_ble_eq_true rfl, Nat.le_of_ble_eq_true rfl⟩) hK hW hA 0 rfl rfl rfl hl.1 rfl (Nat.le_of_ble_eq_true rfl) dL_holds_396 ⟨Nat.le_of_ble_eq_true rfl, Nat.le_of_ble_eq_true rfl⟩ (fun r_2061 _ H locs hw hW => ?_)
                      refine lv_iload hx hb dL_holds_399 (lv_at hl 11 rfl) ?_
                      refine lv_icmp_ne (tgt := 408) hx hb dL_holds_401 (by decide) (fun hc => ?_) (fun hc => ?_)
                      · have hw := hw.1 hc
                        refine lv_iconst (v := 0) hx hb dL_holds_408 (by decide) ?_
                        refine lv_istore (lv' := [(9, .int 0), (8, .int v8_2049), (7, .int v7_2047), (6, .int v6_2045), (5, .int v5_2043), (4, .int v4_2041), (3, .int v3_2039), (2, .int v2_2037), (1, .int v1_2035), (11, .int r_2033), (0, .ref (a 0)), (10, .int v10_2001)]) hx hb dL_holds_409 hl (by decide) rfl (fun ls hl => ?_)
                        obtain ⟨v10_2062, ev10_2062⟩ : ∃ y : Int32, y = v10_2001 + 1 := ⟨_, rfl⟩
                        have hw := hw v10_2062 ev10_2062
                        refine lv_iinc (v := v10_2062) (lv' := [(10, .int v10_2062), (9, .int 0), (8, .int v8_2049), (7, .int v7_2047), (6, .int v6_2045), (5, .int v5_2043), (4, .int v4_2041), (3, .int v3_2039), (2, .int v2_2037), (1, .int v1_2035), (11, .int r_2033), (0, .ref (a 0))]) hx hb dL_holds_411 hl (k := 11) rfl (by rw [ev10_2062]; rfl) (by decide) rfl (fun ls hl => ?_)
                        refine lv_goto (tgt := 135) hx hb dL_holds_414 (by decide) ?_
                        obtain ⟨n9, hlt9, hI9⟩ := hw
                        exact ih2001 n9 hlt9 _ _ _ _ _ _ _ _ _ _ _ _ _ hI9 hW (lv_sub hl [11, 9, 8, 7, 6, 5, 4, 3, 2, 1, 0] rfl)
                      · have hw := hw.2 hc
                        refine lv_iconst (v := 1) hx hb dL_holds_404 (by decide) ?_
                        refine lv_goto (tgt := 409) hx hb dL_holds_405 (by decide) ?_
                        refine lv_istore (lv' := [(9, .int 1), (8, .int v8_2049), (7, .int v7_2047), (6, .int v6_2045), (5, .int v5_2043), (4, .int v4_2041), (3, .int v3_2039), (2, .int v2_2037), (1, .int v1_2035), (11, .int r_2033), (0, .ref (a 0)), (10, .int v10_2001)]) hx hb dL_holds_409 hl (by decide) rfl (fun ls hl => ?_)
                        obtain ⟨v10_2063, ev10_2063⟩ : ∃ y : Int32, y = v10_2001 + 1 := ⟨_, rfl⟩
                        have hw := hw v10_2063 ev10_2063
                        refine lv_iinc (v := v10_2063) (lv' := [(10, .int v10_2063), (9, .int 1), (8, .int v8_2049), (7, .int v7_2047), (6, .int v6_2045), (5, .int v5_2043), (4, .int v4_2041), (3, .int v3_2039), (2, .int v2_2037), (1, .int v1_2035), (11, .int r_2033), (0, .ref (a 0))]) hx hb dL_holds_411 hl (k := 11) rfl (by rw [ev10_2063]; rfl) (by decide) rfl (fun ls hl => ?_)
                        refine lv_goto (tgt := 135) hx hb dL_holds_414 (by decide) ?_
                        obtain ⟨n9, hlt9, hI9⟩ := hw
                        exact ih2001 n9 hlt9 _ _ _ _ _ _ _ _ _ _ _ _ _ hI9 hW (lv_sub hl [11, 9, 8, 7, 6, 5, 4, 3, 2, 1, 0] rfl)
                  · have hw := hw.2 hc
                    refine lv_aload_n hx hb dL_holds_314 rfl (lv_at hl 9 rfl) ?_
                    refine lv_iconst (v := 2) hx hb dL_holds_315 (by decide) ?_
                    refine kV_Mi (As := [.int 2]) (rest := []) ⟨hx, hb, hml, hown, hts⟩ (ok_X4_count_n l D cI cJ a _ _ _ _ hw) (cwV 1 hts gL_holds_X4_count rfl rfl rfl (by decide +kernel) ⟨Nat.le_of_ble_eq_true rfl, Nat.le_of_ble_eq_true rfl⟩) hK hW hA 0 rfl rfl rfl hl.1 rfl (Nat.le_of_ble_eq_true rfl) dL_holds_316 ⟨Nat.le_of_ble_eq_true rfl, Nat.le_of_ble_eq_true rfl⟩ (fun r_2064 _ H locs hw hW => ?_)
                    refine lv_iconst (v := 1) hx hb dL_holds_319 (by decide) ?_
                    refine lv_icmp_ne (tgt := 368) hx hb dL_holds_320 (by decide) (fun hc => ?_) (fun hc => ?_)
                    · have hw := hw.1 hc
                      refine lv_iconst (v := 0) hx hb dL_holds_368 (by decide) ?_
                      refine lv_istore (lv' := [(9, .int 0), (8, .int v8_2049), (7, .int v7_2047), (6, .int v6_2045), (5, .int v5_2043), (4, .int v4_2041), (3, .int v3_2039), (2, .int v2_2037), (1, .int v1_2035), (11, .int r_2033), (0, .ref (a 0)), (10, .int v10_2001)]) hx hb dL_holds_369 hl (by decide) rfl (fun ls hl => ?_)
                      refine lv_iload hx hb dL_holds_371 (lv_at hl 0 rfl) ?_
                      refine lv_if_eq (tgt := 408) hx hb dL_holds_373 (by decide) (fun _ => ?_) (fun hc => absurd (by decide) hc)
                      refine lv_iconst (v := 0) hx hb dL_holds_408 (by decide) ?_
                      refine lv_istore (lv' := [(9, .int 0), (8, .int v8_2049), (7, .int v7_2047), (6, .int v6_2045), (5, .int v5_2043), (4, .int v4_2041), (3, .int v3_2039), (2, .int v2_2037), (1, .int v1_2035), (11, .int r_2033), (0, .ref (a 0)), (10, .int v10_2001)]) hx hb dL_holds_409 hl (by decide) rfl (fun ls hl => ?_)
                      obtain ⟨v10_2065, ev10_2065⟩ : ∃ y : Int32, y = v10_2001 + 1 := ⟨_, rfl⟩
                      have hw := hw v10_2065 ev10_2065
                      refine lv_iinc (v := v10_2065) (lv' := [(10, .int v10_2065), (9, .int 0), (8, .int v8_2049), (7, .int v7_2047), (6, .int v6_2045), (5, .int v5_2043), (4, .int v4_2041), (3, .int v3_2039), (2, .int v2_2037), (1, .int v1_2035), (11, .int r_2033), (0, .ref (a 0))]) hx hb dL_holds_411 hl (k := 11) rfl (by rw [ev10_2065]; rfl) (by decide) rfl (fun ls hl => ?_)
                      refine lv_goto (tgt := 135) hx hb dL_holds_414 (by decide) ?_
                      obtain ⟨n9, hlt9, hI9⟩ := hw
                      exact ih2001 n9 hlt9 _ _ _ _ _ _ _ _ _ _ _ _ _ hI9 hW (lv_sub hl [11, 9, 8, 7, 6, 5, 4, 3, 2, 1, 0] rfl)
                    · have hw := hw.2 hc
                      refine lv_aload_n hx hb dL_holds_323 rfl (lv_at hl 9 rfl) ?_
                      refine lv_iload hx hb dL_holds_324 (lv_at hl 8 rfl) ?_
                      refine lv_iconst (v := 3) hx hb dL_holds_326 (by decide) ?_
                      refine kV_Mi (As := [.int r_2033, .int 3]) (rest := []) ⟨hx, hb, hml, hown, hts⟩ (ok_X4_bidder_n l D cI cJ a _ _ _ _ _ hw) (cwV 2 hts gL_holds_X4_bidder rfl rfl rfl (by decide +kernel) ⟨Nat.le_of_ble_eq_true rfl, Nat.le_of_ble_eq_true rfl⟩) hK hW hA 0 rfl rfl rfl hl.1 rfl (Nat.le_of_ble_eq_true rfl) dL_holds_327 ⟨Nat.le_of_ble_eq_true rfl, Nat.le_of_ble_eq_true rfl⟩ (fun r_2066 _ H locs hw hW => ?_)
                      refine lv_iload hx hb dL_holds_330 (lv_at hl 11 rfl) ?_
                      refine lv_icmp_ne (tgt := 368) hx hb dL_holds_332 (by decide) (fun hc => ?_) (fun hc => ?_)
                      · have hw := hw.1 hc
                        refine lv_iconst (v := 0) hx hb dL_holds_368 (by decide) ?_
                        refine lv_istore (lv' := [(9, .int 0), (8, .int v8_2049), (7, .int v7_2047), (6, .int v6_2045), (5, .int v5_2043), (4, .int v4_2041), (3, .int v3_2039), (2, .int v2_2037), (1, .int v1_2035), (11, .int r_2033), (0, .ref (a 0)), (10, .int v10_2001)]) hx hb dL_holds_369 hl (by decide) rfl (fun ls hl => ?_)
                        refine lv_iload hx hb dL_holds_371 (lv_at hl 0 rfl) ?_
                        refine lv_if_eq (tgt := 408) hx hb dL_holds_373 (by decide) (fun _ => ?_) (fun hc => absurd (by decide) hc)
                        refine lv_iconst (v := 0) hx hb dL_holds_408 (by decide) ?_
                        refine lv_istore (lv' := [(9, .int 0), (8, .int v8_2049), (7, .int v7_2047), (6, .int v6_2045), (5, .int v5_2043), (4, .int v4_2041), (3, .int v3_2039), (2, .int v2_2037), (1, .int v1_2035), (11, .int r_2033), (0, .ref (a 0)), (10, .int v10_2001)]) hx hb dL_holds_409 hl (by decide) rfl (fun ls hl => ?_)
                        obtain ⟨v10_2067, ev10_2067⟩ : ∃ y : Int32, y = v10_2001 + 1 := ⟨_, rfl⟩
                        have hw := hw v10_2067 ev10_2067
                        refine lv_iinc (v := v10_2067) (lv' := [(10, .int v10_2067), (9, .int 0), (8, .int v8_2049), (7, .int v7_2047), (6, .int v6_2045), (5, .int v5_2043), (4, .int v4_2041), (3, .int v3_2039), (2, .int v2_2037), (1, .int v1_2035), (11, .int r_2033), (0, .ref (a 0))]) hx hb dL_holds_411 hl (k := 11) rfl (by rw [ev10_2067]; rfl) (by decide) rfl (fun ls hl => ?_)
                        refine lv_goto (tgt := 135) hx hb dL_holds_414 (by decide) ?_
                        obtain ⟨n9, hlt9, hI9⟩ := hw
                        exact ih2001 n9 hlt9 _ _ _ _ _ _ _ _ _ _ _ _ _ hI9 hW (lv_sub hl [11, 9, 8, 7, 6, 5, 4, 3, 2, 1, 0] rfl)
                      · have hw := hw.2 hc
                        refine lv_aload_n hx hb dL_holds_335 rfl (lv_at hl 9 rfl) ?_
                        refine lv_iload hx hb dL_holds_336 (lv_at hl 8 rfl) ?_
                        refine lv_iload hx hb dL_holds_338 (lv_at hl 11 rfl) ?_
                        refine lv_iconst (v := 2) hx hb dL_holds_340 (by decide) ?_
                        refine kV_Mi (As := [.int r_2033, .int v10_2001, .int 2]) (rest := []) ⟨hx, hb, hml, hown, hts⟩ (ok_X4_sealed_n l D cI cJ a _ _ _ _ _ _ hw) (cwV 3 hts gL_holds_X4_sealed rfl rfl rfl (by decide +kernel) ⟨Nat.le_of_ble_eq_true rfl, Nat.le_of_ble_eq_true rfl⟩) hK hW hA 0 rfl rfl rfl hl.1 rfl (Nat.le_of_ble_eq_true rfl) dL_holds_341 ⟨Nat.le_of_ble_eq_true rfl, Nat.le_of_ble_eq_true rfl⟩ (fun r_2068 _ H locs hw hW => ?_)
                        refine lv_aload_n hx hb dL_holds_344 rfl (lv_at hl 9 rfl) ?_
                        refine lv_iload hx hb dL_holds_345 (lv_at hl 11 rfl) ?_
                        refine lv_iconst (v := 3) hx hb dL_holds_347 (by decide) ?_
                        refine kV_Mi (As := [.int v10_2001, .int 3]) (rest := [.int r_2068]) ⟨hx, hb, hml, hown, hts⟩ (ok_X4_spot_n l D cI cJ a _ _ _ _ _ hw) (cwV 2 hts gL_holds_X4_spot rfl rfl rfl (by decide +kernel) ⟨Nat.le_of_ble_eq_true rfl, Nat.le_of_ble_eq_true rfl⟩) hK hW hA 0 rfl rfl rfl hl.1 rfl (Nat.le_of_ble_eq_true rfl) dL_holds_348 ⟨Nat.le_of_ble_eq_true rfl, Nat.le_of_ble_eq_true rfl⟩ (fun r_2069 _ H locs hw hW => ?_)
                        refine lv_icmp_lt (tgt := 368) hx hb dL_holds_351 (by decide) (fun hc => ?_) (fun hc => ?_)
                        · have hw := hw.1 hc
                          refine lv_iconst (v := 0) hx hb dL_holds_368 (by decide) ?_
                          refine lv_istore (lv' := [(9, .int 0), (8, .int v8_2049), (7, .int v7_2047), (6, .int v6_2045), (5, .int v5_2043), (4, .int v4_2041), (3, .int v3_2039), (2, .int v2_2037), (1, .int v1_2035), (11, .int r_2033), (0, .ref (a 0)), (10, .int v10_2001)]) hx hb dL_holds_369 hl (by decide) rfl (fun ls hl => ?_)
                          refine lv_iload hx hb dL_holds_371 (lv_at hl 0 rfl) ?_
                          refine lv_if_eq (tgt := 408) hx hb dL_holds_373 (by decide) (fun _ => ?_) (fun hc => absurd (by decide) hc)
                          refine lv_iconst (v := 0) hx hb dL_holds_408 (by decide) ?_
                          refine lv_istore (lv' := [(9, .int 0), (8, .int v8_2049), (7, .int v7_2047), (6, .int v6_2045), (5, .int v5_2043), (4, .int v4_2041), (3, .int v3_2039), (2, .int v2_2037), (1, .int v1_2035), (11, .int r_2033), (0, .ref (a 0)), (10, .int v10_2001)]) hx hb dL_holds_409 hl (by decide) rfl (fun ls hl => ?_)
                          obtain ⟨v10_2070, ev10_2070⟩ : ∃ y : Int32, y = v10_2001 + 1 := ⟨_, rfl⟩
                          have hw := hw v10_2070 ev10_2070
                          refine lv_iinc (v := v10_2070) (lv' := [(10, .int v10_2070), (9, .int 0), (8, .int v8_2049), (7, .int v7_2047), (6, .int v6_2045), (5, .int v5_2043), (4, .int v4_2041), (3, .int v3_2039), (2, .int v2_2037), (1, .int v1_2035), (11, .int r_2033), (0, .ref (a 0))]) hx hb dL_holds_411 hl (k := 11) rfl (by rw [ev10_2070]; rfl) (by decide) rfl (fun ls hl => ?_)
                          refine lv_goto (tgt := 135) hx hb dL_holds_414 (by decide) ?_
                          obtain ⟨n9, hlt9, hI9⟩ := hw
                          exact ih2001 n9 hlt9 _ _ _ _ _ _ _ _ _ _ _ _ _ hI9 hW (lv_sub hl [11, 9, 8, 7, 6, 5, 4, 3, 2, 1, 0] rfl)
                        · have hw := hw.2 hc
                          refine lv_aload_n hx hb dL_holds_354 rfl (lv_at hl 9 rfl) ?_
                          refine lv_iload hx hb dL_holds_355 (lv_at hl 11 rfl) ?_
                          refine lv_iconst (v := 3) hx hb dL_holds_357 (by decide) ?_
                          refine kV_Mi (As := [.int v10_2001, .int 3]) (rest := []) ⟨hx, hb, hml, hown, hts⟩ (ok_X4_spot_n l D cI cJ a _ _ _ _ _ hw) (cwV 2 hts gL_holds_X4_spot rfl rfl rfl (by decide +kernel) ⟨Nat.le_of_ble_eq_true rfl, Nat.le_of_ble_eq_true rfl⟩) hK hW hA 0 rfl rfl rfl hl.1 rfl (Nat.le_of_ble_eq_true rfl) dL_holds_358 ⟨Nat.le_of_ble_eq_true rfl, Nat.le_of_ble_eq_true rfl⟩ (fun r_2071 _ H locs hw hW => ?_)
                          refine lv_if_lt (tgt := 368) hx hb dL_holds_361 (by decide) (fun hc => ?_) (fun hc => ?_)
                          · have hw := hw.1 hc
                            refine lv_iconst (v := 0) hx hb dL_holds_368 (by decide) ?_
                            refine lv_istore (lv' := [(9, .int 0), (8, .int v8_2049), (7, .int v7_2047), (6, .int v6_2045), (5, .int v5_2043), (4, .int v4_2041), (3, .int v3_2039), (2, .int v2_2037), (1, .int v1_2035), (11, .int r_2033), (0, .ref (a 0)), (10, .int v10_2001)]) hx hb dL_holds_369 hl (by decide) rfl (fun ls hl => ?_)
                            refine lv_iload hx hb dL_holds_371 (lv_at hl 0 rfl) ?_
                            refine lv_if_eq (tgt := 408) hx hb dL_holds_373 (by decide) (fun _ => ?_) (fun hc => absurd (by decide) hc)
                            refine lv_iconst (v := 0) hx hb dL_holds_408 (by decide) ?_
                            refine lv_istore (lv' := [(9, .int 0), (8, .int v8_2049), (7, .int v7_2047), (6, .int v6_2045), (5, .int v5_2043), (4, .int v4_2041), (3, .int v3_2039), (2, .int v2_2037), (1, .int v1_2035), (11, .int r_2033), (0, .ref (a 0)), (10, .int v10_2001)]) hx hb dL_holds_409 hl (by decide) rfl (fun ls hl => ?_)
                            obtain ⟨v10_2072, ev10_2072⟩ : ∃ y : Int32, y = v10_2001 + 1 := ⟨_, rfl⟩
                            have hw := hw v10_2072 ev10_2072
                            refine lv_iinc (v := v10_2072) (lv' := [(10, .int v10_2072), (9, .int 0), (8, .int v8_2049), (7, .int v7_2047), (6, .int v6_2045), (5, .int v5_2043), (4, .int v4_2041), (3, .int v3_2039), (2, .int v2_2037), (1, .int v1_2035), (11, .int r_2033), (0, .ref (a 0))]) hx hb dL_holds_411 hl (k := 11) rfl (by rw [ev10_2072]; rfl) (by decide) rfl (fun ls hl => ?_)
                            refine lv_goto (tgt := 135) hx hb dL_holds_414 (by decide) ?_
                            obtain ⟨n9, hlt9, hI9⟩ := hw
                            exact ih2001 n9 hlt9 _ _ _ _ _ _ _ _ _ _ _ _ _ hI9 hW (lv_sub hl [11, 9, 8, 7, 6, 5, 4, 3, 2, 1, 0] rfl)
                          · have hw := hw.2 hc
                            refine lv_iconst (v := 1) hx hb dL_holds_364 (by decide) ?_
                            refine lv_goto (tgt := 369) hx hb dL_holds_365 (by decide) ?_
                            refine lv_istore (lv' := [(9, .int 1), (8, .int v8_2049), (7, .int v7_2047), (6, .int v6_2045), (5, .int v5_2043), (4, .int v4_2041), (3, .int v3_2039), (2, .int v2_2037), (1, .int v1_2035), (11, .int r_2033), (0, .ref (a 0)), (10, .int v10_2001)]) hx hb dL_holds_369 hl (by decide) rfl (fun ls hl => ?_)
                            refine lv_iload hx hb dL_holds_371 (lv_at hl 0 rfl) ?_
                            refine lv_if_eq (tgt := 408) hx hb dL_holds_373 (by decide) (fun hc => absurd hc (by decide)) (fun _ => ?_)
                            refine lv_aload_n hx hb dL_holds_376 rfl (lv_at hl 10 rfl) ?_
                            refine lv_iload hx hb dL_holds_377 (lv_at hl 11 rfl) ?_
                            refine lv_iconst (v := 3) hx hb dL_holds_379 (by decide) ?_
                            refine kV_Mi (As := [.int v10_2001, .int 3]) (rest := []) ⟨hx, hb, hml, hown, hts⟩ (ok_X4_bidder_n l D cI cJ a _ _ _ _ _ hw) (cwV 2 hts gL_holds_X4_bidder rfl rfl rfl (by decide +kernel) ⟨Nat.le_of_ble_eq_true rfl, Nat.le_of_ble_eq_true rfl⟩) hK hW hA 0 rfl rfl rfl hl.1 rfl (Nat.le_of_ble_eq_true rfl) dL_holds_380 ⟨Nat.le_of_ble_eq_true rfl, Nat.le_of_ble_eq_true rfl⟩ (fun r_2073 _ H locs hw hW => ?_)
                            refine lv_iconst (v := (-1)) hx hb dL_holds_383 (by decide) ?_
                            refine lv_icmp_eq (tgt := 404) hx hb dL_holds_384 (by decide) (fun hc => ?_) (fun hc => ?_)
                            · have hw := hw.1 hc
                              refine lv_iconst (v := 1) hx hb dL_holds_404 (by decide) ?_
                              refine lv_goto (tgt := 409) hx hb dL_holds_405 (by decide) ?_
                              refine lv_istore (lv' := [(9, .int 1), (8, .int v8_2049), (7, .int v7_2047), (6, .int v6_2045), (5, .int v5_2043), (4, .int v4_2041), (3, .int v3_2039), (2, .int v2_2037), (1, .int v1_2035), (11, .int r_2033), (0, .ref (a 0)), (10, .int v10_2001)]) hx hb dL_holds_409 hl (by decide) rfl (fun ls hl => ?_)
                              obtain ⟨v10_2074, ev10_2074⟩ : ∃ y : Int32, y = v10_2001 + 1 := ⟨_, rfl⟩
                              have hw := hw v10_2074 ev10_2074
                              refine lv_iinc (v := v10_2074) (lv' := [(10, .int v10_2074), (9, .int 1), (8, .int v8_2049), (7, .int v7_2047), (6, .int v6_2045), (5, .int v5_2043), (4, .int v4_2041), (3, .int v3_2039), (2, .int v2_2037), (1, .int v1_2035), (11, .int r_2033), (0, .ref (a 0))]) hx hb dL_holds_411 hl (k := 11) rfl (by rw [ev10_2074]; rfl) (by decide) rfl (fun ls hl => ?_)
                              refine lv_goto (tgt := 135) hx hb dL_holds_414 (by decide) ?_
                              obtain ⟨n9, hlt9, hI9⟩ := hw
                              exact ih2001 n9 hlt9 _ _ _ _ _ _ _ _ _ _ _ _ _ hI9 hW (lv_sub hl [11, 9, 8, 7, 6, 5, 4, 3, 2, 1, 0] rfl)
                            · have hw := hw.2 hc
                              refine lv_aload_n hx hb dL_holds_387 rfl (lv_at hl 10 rfl) ?_
                              refine lv_aload_n hx hb dL_holds_388 rfl (lv_at hl 10 rfl) ?_
                              refine lv_iload hx hb dL_holds_389 (lv_at hl 11 rfl) ?_
                              refine lv_iconst (v := 3) hx hb dL_holds_391 (by decide) ?_
                              refine kV_Mi (As := [.int v10_2001, .int 3]) (rest := [.ref (a 0)]) ⟨hx, hb, hml, hown, hts⟩ (ok_X4_bidder_n l D cI cJ a _ _ _ _ _ hw) (cwV 2 hts gL_holds_X4_bidder rfl rfl rfl (by decide +kernel) ⟨Nat.le_of_ble_eq_true rfl, Nat.le_of_ble_eq_true rfl⟩) hK hW hA 0 rfl rfl rfl hl.1 rfl (Nat.le_of_ble_eq_true rfl) dL_holds_392 ⟨Nat.le_of_ble_eq_true rfl, Nat.le_of_ble_eq_true rfl⟩ (fun r_2075 _ H locs hw hW => ?_)
                              refine lv_iconst (v := 2) hx hb dL_holds_395 (by decide) ?_
                              refine kV_Mi (As := [.int r_2075, .int 2]) (rest := []) ⟨hx, hb, hml, hown, hts⟩ (ok_X4_spot_n l D cI cJ a _ _ _ _ _ hw) (cwV 2 hts gL_holds_X4_spot rfl rfl rfl (by decide +kernel) ⟨Nat.le_of_ble_eq_true rfl, Nat.le_of_ble_eq_true rfl⟩) hK hW hA 0 rfl rfl rfl hl.1 rfl (Nat.le_of_ble_eq_true rfl) dL_holds_396 ⟨Nat.le_of_ble_eq_true rfl, Nat.le_of_ble_eq_true rfl⟩ (fun r_2076 _ H locs hw hW => ?_)
                              refine lv_iload hx hb dL_holds_399 (lv_at hl 11 rfl) ?_
                              refine lv_icmp_ne (tgt := 408) hx hb dL_holds_401 (by decide) (fun hc => ?_) (fun hc => ?_)
                              · have hw := hw.1 hc
                                refine lv_iconst (v := 0) hx hb dL_holds_408 (by decide) ?_
                                refine lv_istore (lv' := [(9, .int 0), (8, .int v8_2049), (7, .int v7_2047), (6, .int v6_2045), (5, .int v5_2043), (4, .int v4_2041), (3, .int v3_2039), (2, .int v2_2037), (1, .int v1_2035), (11, .int r_2033), (0, .ref (a 0)), (10, .int v10_2001)]) hx hb dL_holds_409 hl (by decide) rfl (fun ls hl => ?_)
                                obtain ⟨v10_2077, ev10_2077⟩ : ∃ y : Int32, y = v10_2001 + 1 := ⟨_, rfl⟩
                                have hw := hw v10_2077 ev10_2077
                                refine lv_iinc (v := v10_2077) (lv' := [(10, .int v10_2077), (9, .int 0), (8, .int v8_2049), (7, .int v7_2047), (6, .int v6_2045), (5, .int v5_2043), (4, .int v4_2041), (3, .int v3_2039), (2, .int v2_2037), (1, .int v1_2035), (11, .int r_2033), (0, .ref (a 0))]) hx hb dL_holds_411 hl (k := 11) rfl (by rw [ev10_2077]; rfl) (by decide) rfl (fun ls hl => ?_)
                                refine lv_goto (tgt := 135) hx hb dL_holds_414 (by decide) ?_
                                obtain ⟨n9, hlt9, hI9⟩ := hw
                                exact ih2001 n9 hlt9 _ _ _ _ _ _ _ _ _ _ _ _ _ hI9 hW (lv_sub hl [11, 9, 8, 7, 6, 5, 4, 3, 2, 1, 0] rfl)
                              · have hw := hw.2 hc
                                refine lv_iconst (v := 1) hx hb dL_holds_404 (by decide) ?_
                                refine lv_goto (tgt := 409) hx hb dL_holds_405 (by decide) ?_
                                refine lv_istore (lv' := [(9, .int 1), (8, .int v8_2049), (7, .int v7_2047), (6, .int v6_2045), (5, .int v5_2043), (4, .int v4_2041), (3, .int v3_2039), (2, .int v2_2037), (1, .int v1_2035), (11, .int r_2033), (0, .ref (a 0)), (10, .int v10_2001)]) hx hb dL_holds_409 hl (by decide) rfl (fun ls hl => ?_)
                                obtain ⟨v10_2078, ev10_2078⟩ : ∃ y : Int32, y = v10_2001 + 1 := ⟨_, rfl⟩
                                have hw := hw v10_2078 ev10_2078
                                refine lv_iinc (v := v10_2078) (lv' := [(10, .int v10_2078), (9, .int 1), (8, .int v8_2049), (7, .int v7_2047), (6, .int v6_2045), (5, .int v5_2043), (4, .int v4_2041), (3, .int v3_2039), (2, .int v2_2037), (1, .int v1_2035), (11, .int r_2033), (0, .ref (a 0))]) hx hb dL_holds_411 hl (k := 11) rfl (by rw [ev10_2078]; rfl) (by decide) rfl (fun ls hl => ?_)
                                refine lv_goto (tgt := 135) hx hb dL_holds_414 (by decide) ?_
                                obtain ⟨n9, hlt9, hI9⟩ := hw
                                exact ih2001 n9 hlt9 _ _ _ _ _ _ _ _ _ _ _ _ _ hI9 hW (lv_sub hl [11, 9, 8, 7, 6, 5, 4, 3, 2, 1, 0] rfl)
                · have hw := hw.2 hc
                  refine lv_iconst (v := 1) hx hb dL_holds_301 (by decide) ?_
                  refine lv_goto (tgt := 306) hx hb dL_holds_302 (by decide) ?_
                  refine lv_icmp_ne (tgt := 368) hx hb dL_holds_306 (by decide) (fun _ => ?_) (fun hc => absurd hc (by decide))
                  refine lv_iconst (v := 0) hx hb dL_holds_368 (by decide) ?_
                  refine lv_istore (lv' := [(9, .int 0), (8, .int v8_2049), (7, .int v7_2047), (6, .int v6_2045), (5, .int v5_2043), (4, .int v4_2041), (3, .int v3_2039), (2, .int v2_2037), (1, .int v1_2035), (11, .int r_2033), (0, .ref (a 0)), (10, .int v10_2001)]) hx hb dL_holds_369 hl (by decide) rfl (fun ls hl => ?_)
                  refine lv_iload hx hb dL_holds_371 (lv_at hl 0 rfl) ?_
                  refine lv_if_eq (tgt := 408) hx hb dL_holds_373 (by decide) (fun _ => ?_) (fun hc => absurd (by decide) hc)
                  refine lv_iconst (v := 0) hx hb dL_holds_408 (by decide) ?_
                  refine lv_istore (lv' := [(9, .int 0), (8, .int v8_2049), (7, .int v7_2047), (6, .int v6_2045), (5, .int v5_2043), (4, .int v4_2041), (3, .int v3_2039), (2, .int v2_2037), (1, .int v1_2035), (11, .int r_2033), (0, .ref (a 0)), (10, .int v10_2001)]) hx hb dL_holds_409 hl (by decide) rfl (fun ls hl => ?_)
                  obtain ⟨v10_2079, ev10_2079⟩ : ∃ y : Int32, y = v10_2001 + 1 := ⟨_, rfl⟩
                  have hw := hw v10_2079 ev10_2079
                  refine lv_iinc (v := v10_2079) (lv' := [(10, .int v10_2079), (9, .int 0), (8, .int v8_2049), (7, .int v7_2047), (6, .int v6_2045), (5, .int v5_2043), (4, .int v4_2041), (3, .int v3_2039), (2, .int v2_2037), (1, .int v1_2035), (11, .int r_2033), (0, .ref (a 0))]) hx hb dL_holds_411 hl (k := 11) rfl (by rw [ev10_2079]; rfl) (by decide) rfl (fun ls hl => ?_)
                  refine lv_goto (tgt := 135) hx hb dL_holds_414 (by decide) ?_
                  obtain ⟨n9, hlt9, hI9⟩ := hw
                  exact ih2001 n9 hlt9 _ _ _ _ _ _ _ _ _ _ _ _ _ hI9 hW (lv_sub hl [11, 9, 8, 7, 6, 5, 4, 3, 2, 1, 0] rfl)
              · have hw := hw.2 hc
                refine lv_iconst (v := 1) hx hb dL_holds_285 (by decide) ?_
                refine lv_goto (tgt := 290) hx hb dL_holds_286 (by decide) ?_
                refine lv_aload_n hx hb dL_holds_290 rfl (lv_at hl 9 rfl) ?_
                refine lv_iload hx hb dL_holds_291 (lv_at hl 11 rfl) ?_
                refine lv_iconst (v := 3) hx hb dL_holds_293 (by decide) ?_
                refine kV_Mi (As := [.int v10_2001, .int 3]) (rest := [.int 1]) ⟨hx, hb, hml, hown, hts⟩ (ok_X4_spot_n l D cI cJ a _ _ _ _ _ hw) (cwV 2 hts gL_holds_X4_spot rfl rfl rfl (by decide +kernel) ⟨Nat.le_of_ble_eq_true rfl, Nat.le_of_ble_eq_true rfl⟩) hK hW hA 0 rfl rfl rfl hl.1 rfl (Nat.le_of_ble_eq_true rfl) dL_holds_294 ⟨Nat.le_of_ble_eq_true rfl, Nat.le_of_ble_eq_true rfl⟩ (fun r_2080 _ H locs hw hW => ?_)
                refine lv_iconst (v := (-1)) hx hb dL_holds_297 (by decide) ?_
                refine lv_icmp_ne (tgt := 305) hx hb dL_holds_298 (by decide) (fun hc => ?_) (fun hc => ?_)
                · have hw := hw.1 hc
                  refine lv_iconst (v := 0) hx hb dL_holds_305 (by decide) ?_
                  refine lv_icmp_ne (tgt := 368) hx hb dL_holds_306 (by decide) (fun _ => ?_) (fun hc => absurd hc (by decide))
                  refine lv_iconst (v := 0) hx hb dL_holds_368 (by decide) ?_
                  refine lv_istore (lv' := [(9, .int 0), (8, .int v8_2049), (7, .int v7_2047), (6, .int v6_2045), (5, .int v5_2043), (4, .int v4_2041), (3, .int v3_2039), (2, .int v2_2037), (1, .int v1_2035), (11, .int r_2033), (0, .ref (a 0)), (10, .int v10_2001)]) hx hb dL_holds_369 hl (by decide) rfl (fun ls hl => ?_)
                  refine lv_iload hx hb dL_holds_371 (lv_at hl 0 rfl) ?_
                  refine lv_if_eq (tgt := 408) hx hb dL_holds_373 (by decide) (fun _ => ?_) (fun hc => absurd (by decide) hc)
                  refine lv_iconst (v := 0) hx hb dL_holds_408 (by decide) ?_
                  refine lv_istore (lv' := [(9, .int 0), (8, .int v8_2049), (7, .int v7_2047), (6, .int v6_2045), (5, .int v5_2043), (4, .int v4_2041), (3, .int v3_2039), (2, .int v2_2037), (1, .int v1_2035), (11, .int r_2033), (0, .ref (a 0)), (10, .int v10_2001)]) hx hb dL_holds_409 hl (by decide) rfl (fun ls hl => ?_)
                  obtain ⟨v10_2081, ev10_2081⟩ : ∃ y : Int32, y = v10_2001 + 1 := ⟨_, rfl⟩
                  have hw := hw v10_2081 ev10_2081
                  refine lv_iinc (v := v10_2081) (lv' := [(10, .int v10_2081), (9, .int 0), (8, .int v8_2049), (7, .int v7_2047), (6, .int v6_2045), (5, .int v5_2043), (4, .int v4_2041), (3, .int v3_2039), (2, .int v2_2037), (1, .int v1_2035), (11, .int r_2033), (0, .ref (a 0))]) hx hb dL_holds_411 hl (k := 11) rfl (by rw [ev10_2081]; rfl) (by decide) rfl (fun ls hl => ?_)
                  refine lv_goto (tgt := 135) hx hb dL_holds_414 (by decide) ?_
                  obtain ⟨n9, hlt9, hI9⟩ := hw
                  exact ih2001 n9 hlt9 _ _ _ _ _ _ _ _ _ _ _ _ _ hI9 hW (lv_sub hl [11, 9, 8, 7, 6, 5, 4, 3, 2, 1, 0] rfl)
                · have hw := hw.2 hc
                  refine lv_iconst (v := 1) hx hb dL_holds_301 (by decide) ?_
                  refine lv_goto (tgt := 306) hx hb dL_holds_302 (by decide) ?_
                  refine lv_icmp_ne (tgt := 368) hx hb dL_holds_306 (by decide) (fun hc => absurd hc (by decide)) (fun _ => ?_)
                  refine lv_iload hx hb dL_holds_309 (lv_at hl 8 rfl) ?_
                  refine lv_if_lt (tgt := 364) hx hb dL_holds_311 (by decide) (fun hc => ?_) (fun hc => ?_)
                  · have hw := hw.1 hc
                    refine lv_iconst (v := 1) hx hb dL_holds_364 (by decide) ?_
                    refine lv_goto (tgt := 369) hx hb dL_holds_365 (by decide) ?_
                    refine lv_istore (lv' := [(9, .int 1), (8, .int v8_2049), (7, .int v7_2047), (6, .int v6_2045), (5, .int v5_2043), (4, .int v4_2041), (3, .int v3_2039), (2, .int v2_2037), (1, .int v1_2035), (11, .int r_2033), (0, .ref (a 0)), (10, .int v10_2001)]) hx hb dL_holds_369 hl (by decide) rfl (fun ls hl => ?_)
                    refine lv_iload hx hb dL_holds_371 (lv_at hl 0 rfl) ?_
                    refine lv_if_eq (tgt := 408) hx hb dL_holds_373 (by decide) (fun hc => absurd hc (by decide)) (fun _ => ?_)
                    refine lv_aload_n hx hb dL_holds_376 rfl (lv_at hl 10 rfl) ?_
                    refine lv_iload hx hb dL_holds_377 (lv_at hl 11 rfl) ?_
                    refine lv_iconst (v := 3) hx hb dL_holds_379 (by decide) ?_
                    refine kV_Mi (As := [.int v10_2001, .int 3]) (rest := []) ⟨hx, hb, hml, hown, hts⟩ (ok_X4_bidder_n l D cI cJ a _ _ _ _ _ hw) (cwV 2 hts gL_holds_X4_bidder rfl rfl rfl (by decide +kernel) ⟨Nat.le_of_ble_eq_true rfl, Nat.le_of_ble_eq_true rfl⟩) hK hW hA 0 rfl rfl rfl hl.1 rfl (Nat.le_of_ble_eq_true rfl) dL_holds_380 ⟨Nat.le_of_ble_eq_true rfl, Nat.le_of_ble_eq_true rfl⟩ (fun r_2082 _ H locs hw hW => ?_)
                    refine lv_iconst (v := (-1)) hx hb dL_holds_383 (by decide) ?_
                    refine lv_icmp_eq (tgt := 404) hx hb dL_holds_384 (by decide) (fun hc => ?_) (fun hc => ?_)
                    · have hw := hw.1 hc
                      refine lv_iconst (v := 1) hx hb dL_holds_404 (by decide) ?_
                      refine lv_goto (tgt := 409) hx hb dL_holds_405 (by decide) ?_
                      refine lv_istore (lv' := [(9, .int 1), (8, .int v8_2049), (7, .int v7_2047), (6, .int v6_2045), (5, .int v5_2043), (4, .int v4_2041), (3, .int v3_2039), (2, .int v2_2037), (1, .int v1_2035), (11, .int r_2033), (0, .ref (a 0)), (10, .int v10_2001)]) hx hb dL_holds_409 hl (by decide) rfl (fun ls hl => ?_)
                      obtain ⟨v10_2083, ev10_2083⟩ : ∃ y : Int32, y = v10_2001 + 1 := ⟨_, rfl⟩
                      have hw := hw v10_2083 ev10_2083
                      refine lv_iinc (v := v10_2083) (lv' := [(10, .int v10_2083), (9, .int 1), (8, .int v8_2049), (7, .int v7_2047), (6, .int v6_2045), (5, .int v5_2043), (4, .int v4_2041), (3, .int v3_2039), (2, .int v2_2037), (1, .int v1_2035), (11, .int r_2033), (0, .ref (a 0))]) hx hb dL_holds_411 hl (k := 11) rfl (by rw [ev10_2083]; rfl) (by decide) rfl (fun ls hl => ?_)
                      refine lv_goto (tgt := 135) hx hb dL_holds_414 (by decide) ?_
                      obtain ⟨n9, hlt9, hI9⟩ := hw
                      exact ih2001 n9 hlt9 _ _ _ _ _ _ _ _ _ _ _ _ _ hI9 hW (lv_sub hl [11, 9, 8, 7, 6, 5, 4, 3, 2, 1, 0] rfl)
                    · have hw := hw.2 hc
                      refine lv_aload_n hx hb dL_holds_387 rfl (lv_at hl 10 rfl) ?_
                      refine lv_aload_n hx hb dL_holds_388 rfl (lv_at hl 10 rfl) ?_
                      refine lv_iload hx hb dL_holds_389 (lv_at hl 11 rfl) ?_
                      refine lv_iconst (v := 3) hx hb dL_holds_391 (by decide) ?_
                      refine kV_Mi (As := [.int v10_2001, .int 3]) (rest := [.ref (a 0)]) ⟨hx, hb, hml, hown, hts⟩ (ok_X4_bidder_n l D cI cJ a _ _ _ _ _ hw) (cwV 2 hts gL_holds_X4_bidder rfl rfl rfl (by decide +kernel) ⟨Nat.le_of_ble_eq_true rfl, Nat.le_of_ble_eq_true rfl⟩) hK hW hA 0 rfl rfl rfl hl.1 rfl (Nat.le_of_ble_eq_true rfl) dL_holds_392 ⟨Nat.le_of_ble_eq_true rfl, Nat.le_of_ble_eq_true rfl⟩ (fun r_2084 _ H locs hw hW => ?_)
                      refine lv_iconst (v := 2) hx hb dL_holds_395 (by decide) ?_
                      refine kV_Mi (As := [.int r_2084, .int 2]) (rest := []) ⟨hx, hb, hml, hown, hts⟩ (ok_X4_spot_n l D cI cJ a _ _ _ _ _ hw) (cwV 2 hts gL_holds_X4_spot rfl rfl rfl (by decide +kernel) ⟨Nat.le_of_ble_eq_true rfl, Nat.le_of_ble_eq_true rfl⟩) hK hW hA 0 rfl rfl rfl hl.1 rfl (Nat.le_of_ble_eq_true rfl) dL_holds_396 ⟨Nat.le_of_ble_eq_true rfl, Nat.le_of_ble_eq_true rfl⟩ (fun r_2085 _ H locs hw hW => ?_)
                      refine lv_iload hx hb dL_holds_399 (lv_at hl 11 rfl) ?_
                      refine lv_icmp_ne (tgt := 408) hx hb dL_holds_401 (by decide) (fun hc => ?_) (fun hc => ?_)
                      · have hw := hw.1 hc
                        refine lv_iconst (v := 0) hx hb dL_holds_408 (by decide) ?_
                        refine lv_istore (lv' := [(9, .int 0), (8, .int v8_2049), (7, .int v7_2047), (6, .int v6_2045), (5, .int v5_2043), (4, .int v4_2041), (3, .int v3_2039), (2, .int v2_2037), (1, .int v1_2035), (11, .int r_2033), (0, .ref (a 0)), (10, .int v10_2001)]) hx hb dL_holds_409 hl (by decide) rfl (fun ls hl => ?_)
                        obtain ⟨v10_2086, ev10_2086⟩ : ∃ y : Int32, y = v10_2001 + 1 := ⟨_, rfl⟩
                        have hw := hw v10_2086 ev10_2086
                        refine lv_iinc (v := v10_2086) (lv' := [(10, .int v10_2086), (9, .int 0), (8, .int v8_2049), (7, .int v7_2047), (6, .int v6_2045), (5, .int v5_2043), (4, .int v4_2041), (3, .int v3_2039), (2, .int v2_2037), (1, .int v1_2035), (11, .int r_2033), (0, .ref (a 0))]) hx hb dL_holds_411 hl (k := 11) rfl (by rw [ev10_2086]; rfl) (by decide) rfl (fun ls hl => ?_)
                        refine lv_goto (tgt := 135) hx hb dL_holds_414 (by decide) ?_
                        obtain ⟨n9, hlt9, hI9⟩ := hw
                        exact ih2001 n9 hlt9 _ _ _ _ _ _ _ _ _ _ _ _ _ hI9 hW (lv_sub hl [11, 9, 8, 7, 6, 5, 4, 3, 2, 1, 0] rfl)
                      · have hw := hw.2 hc
                        refine lv_iconst (v := 1) hx hb dL_holds_404 (by decide) ?_
                        refine lv_goto (tgt := 409) hx hb dL_holds_405 (by decide) ?_
                        refine lv_istore (lv' := [(9, .int 1), (8, .int v8_2049), (7, .int v7_2047), (6, .int v6_2045), (5, .int v5_2043), (4, .int v4_2041), (3, .int v3_2039), (2, .int v2_2037), (1, .int v1_2035), (11, .int r_2033), (0, .ref (a 0)), (10, .int v10_2001)]) hx hb dL_holds_409 hl (by decide) rfl (fun ls hl => ?_)
                        obtain ⟨v10_2087, ev10_2087⟩ : ∃ y : Int32, y = v10_2001 + 1 := ⟨_, rfl⟩
                        have hw := hw v10_2087 ev10_2087
                        refine lv_iinc (v := v10_2087) (lv' := [(10, .int v10_2087), (9, .int 1), (8, .int v8_2049), (7, .int v7_2047), (6, .int v6_2045), (5, .int v5_2043), (4, .int v4_2041), (3, .int v3_2039), (2, .int v2_2037), (1, .int v1_2035), (11, .int r_2033), (0, .ref (a 0))]) hx hb dL_holds_411 hl (k := 11) rfl (by rw [ev10_2087]; rfl) (by decide) rfl (fun ls hl => ?_)
                        refine lv_goto (tgt := 135) hx hb dL_holds_414 (by decide) ?_
                        obtain ⟨n9, hlt9, hI9⟩ := hw
                        exact ih2001 n9 hlt9 _ _ _ _ _ _ _ _ _ _ _ _ _ hI9 hW (lv_sub hl [11, 9, 8, 7, 6, 5, 4, 3, 2, 1, 0] rfl)
                  · have hw := hw.2 hc
                    refine lv_aload_n hx hb dL_holds_314 rfl (lv_at hl 9 rfl) ?_
                    refine lv_iconst (v := 2) hx hb dL_holds_315 (by decide) ?_
                    refine kV_Mi (As := [.int 2]) (rest := []) ⟨hx, hb, hml, hown, hts⟩ (ok_X4_count_n l D cI cJ a _ _ _ _ hw) (cwV 1 hts gL_holds_X4_count rfl rfl rfl (by decide +kernel) ⟨Nat.le_of_ble_eq_true rfl, Nat.le_of_ble_eq_true rfl⟩) hK hW hA 0 rfl rfl rfl hl.1 rfl (Nat.le_of_ble_eq_true rfl) dL_holds_316 ⟨Nat.le_of_ble_eq_true rfl, Nat.le_of_ble_eq_true rfl⟩ (fun r_2088 _ H locs hw hW => ?_)
                    refine lv_iconst (v := 1) hx hb dL_holds_319 (by decide) ?_
                    refine lv_icmp_ne (tgt := 368) hx hb dL_holds_320 (by decide) (fun hc => ?_) (fun hc => ?_)
                    · have hw := hw.1 hc
                      refine lv_iconst (v := 0) hx hb dL_holds_368 (by decide) ?_
                      refine lv_istore (lv' := [(9, .int 0), (8, .int v8_2049), (7, .int v7_2047), (6, .int v6_2045), (5, .int v5_2043), (4, .int v4_2041), (3, .int v3_2039), (2, .int v2_2037), (1, .int v1_2035), (11, .int r_2033), (0, .ref (a 0)), (10, .int v10_2001)]) hx hb dL_holds_369 hl (by decide) rfl (fun ls hl => ?_)
                      refine lv_iload hx hb dL_holds_371 (lv_at hl 0 rfl) ?_
                      refine lv_if_eq (tgt := 408) hx hb dL_holds_373 (by decide) (fun _ => ?_) (fun hc => absurd (by decide) hc)
                      refine lv_iconst (v := 0) hx hb dL_holds_408 (by decide) ?_
                      refine lv_istore (lv' := [(9, .int 0), (8, .int v8_2049), (7, .int v7_2047), (6, .int v6_2045), (5, .int v5_2043), (4, .int v4_2041), (3, .int v3_2039), (2, .int v2_2037), (1, .int v1_2035), (11, .int r_2033), (0, .ref (a 0)), (10, .int v10_2001)]) hx hb dL_holds_409 hl (by decide) rfl (fun ls hl => ?_)
                      obtain ⟨v10_2089, ev10_2089⟩ : ∃ y : Int32, y = v10_2001 + 1 := ⟨_, rfl⟩
                      have hw := hw v10_2089 ev10_2089
                      refine lv_iinc (v := v10_2089) (lv' := [(10, .int v10_2089), (9, .int 0), (8, .int v8_2049), (7, .int v7_2047), (6, .int v6_2045), (5, .int v5_2043), (4, .int v4_2041), (3, .int v3_2039), (2, .int v2_2037), (1, .int v1_2035), (11, .int r_2033), (0, .ref (a 0))]) hx hb dL_holds_411 hl (k := 11) rfl (by rw [ev10_2089]; rfl) (by decide) rfl (fun ls hl => ?_)
                      refine lv_goto (tgt := 135) hx hb dL_holds_414 (by decide) ?_
                      obtain ⟨n9, hlt9, hI9⟩ := hw
                      exact ih2001 n9 hlt9 _ _ _ _ _ _ _ _ _ _ _ _ _ hI9 hW (lv_sub hl [11, 9, 8, 7, 6, 5, 4, 3, 2, 1, 0] rfl)
                    · have hw := hw.2 hc
                      refine lv_aload_n hx hb dL_holds_323 rfl (lv_at hl 9 rfl) ?_
                      refine lv_iload hx hb dL_holds_324 (lv_at hl 8 rfl) ?_
                      refine lv_iconst (v := 3) hx hb dL_holds_326 (by decide) ?_
                      refine kV_Mi (As := [.int r_2033, .int 3]) (rest := []) ⟨hx, hb, hml, hown, hts⟩ (ok_X4_bidder_n l D cI cJ a _ _ _ _ _ hw) (cwV 2 hts gL_holds_X4_bidder rfl rfl rfl (by decide +kernel) ⟨Nat.le_of_ble_eq_true rfl, Nat.le_of_ble_eq_true rfl⟩) hK hW hA 0 rfl rfl rfl hl.1 rfl (Nat.le_of_ble_eq_true rfl) dL_holds_327 ⟨Nat.le_of_ble_eq_true rfl, Nat.le_of_ble_eq_true rfl⟩ (fun r_2090 _ H locs hw hW => ?_)
                      refine lv_iload hx hb dL_holds_330 (lv_at hl 11 rfl) ?_
                      refine lv_icmp_ne (tgt := 368) hx hb dL_holds_332 (by decide) (fun hc => ?_) (fun hc => ?_)
                      · have hw := hw.1 hc
                        refine lv_iconst (v := 0) hx hb dL_holds_368 (by decide) ?_
                        refine lv_istore (lv' := [(9, .int 0), (8, .int v8_2049), (7, .int v7_2047), (6, .int v6_2045), (5, .int v5_2043), (4, .int v4_2041), (3, .int v3_2039), (2, .int v2_2037), (1, .int v1_2035), (11, .int r_2033), (0, .ref (a 0)), (10, .int v10_2001)]) hx hb dL_holds_369 hl (by decide) rfl (fun ls hl => ?_)
                        refine lv_iload hx hb dL_holds_371 (lv_at hl 0 rfl) ?_
                        refine lv_if_eq (tgt := 408) hx hb dL_holds_373 (by decide) (fun _ => ?_) (fun hc => absurd (by decide) hc)
                        refine lv_iconst (v := 0) hx hb dL_holds_408 (by decide) ?_
                        refine lv_istore (lv' := [(9, .int 0), (8, .int v8_2049), (7, .int v7_2047), (6, .int v6_2045), (5, .int v5_2043), (4, .int v4_2041), (3, .int v3_2039), (2, .int v2_2037), (1, .int v1_2035), (11, .int r_2033), (0, .ref (a 0)), (10, .int v10_2001)]) hx hb dL_holds_409 hl (by decide) rfl (fun ls hl => ?_)
                        obtain ⟨v10_2091, ev10_2091⟩ : ∃ y : Int32, y = v10_2001 + 1 := ⟨_, rfl⟩
                        have hw := hw v10_2091 ev10_2091
                        refine lv_iinc (v := v10_2091) (lv' := [(10, .int v10_2091), (9, .int 0), (8, .int v8_2049), (7, .int v7_2047), (6, .int v6_2045), (5, .int v5_2043), (4, .int v4_2041), (3, .int v3_2039), (2, .int v2_2037), (1, .int v1_2035), (11, .int r_2033), (0, .ref (a 0))]) hx hb dL_holds_411 hl (k := 11) rfl (by rw [ev10_2091]; rfl) (by decide) rfl (fun ls hl => ?_)
                        refine lv_goto (tgt := 135) hx hb dL_holds_414 (by decide) ?_
                        obtain ⟨n9, hlt9, hI9⟩ := hw
                        exact ih2001 n9 hlt9 _ _ _ _ _ _ _ _ _ _ _ _ _ hI9 hW (lv_sub hl [11, 9, 8, 7, 6, 5, 4, 3, 2, 1, 0] rfl)
                      · have hw := hw.2 hc
                        refine lv_aload_n hx hb dL_holds_335 rfl (lv_at hl 9 rfl) ?_
                        refine lv_iload hx hb dL_holds_336 (lv_at hl 8 rfl) ?_
                        refine lv_iload hx hb dL_holds_338 (lv_at hl 11 rfl) ?_
                        refine lv_iconst (v := 2) hx hb dL_holds_340 (by decide) ?_
                        refine kV_Mi (As := [.int r_2033, .int v10_2001, .int 2]) (rest := []) ⟨hx, hb, hml, hown, hts⟩ (ok_X4_sealed_n l D cI cJ a _ _ _ _ _ _ hw) (cwV 3 hts gL_holds_X4_sealed rfl rfl rfl (by decide +kernel) ⟨Nat.le_of_ble_eq_true rfl, Nat.le_of_ble_eq_true rfl⟩) hK hW hA 0 rfl rfl rfl hl.1 rfl (Nat.le_of_ble_eq_true rfl) dL_holds_341 ⟨Nat.le_of_ble_eq_true rfl, Nat.le_of_ble_eq_true rfl⟩ (fun r_2092 _ H locs hw hW => ?_)
                        refine lv_aload_n hx hb dL_holds_344 rfl (lv_at hl 9 rfl) ?_
                        refine lv_iload hx hb dL_holds_345 (lv_at hl 11 rfl) ?_
                        refine lv_iconst (v := 3) hx hb dL_holds_347 (by decide) ?_
                        refine kV_Mi (As := [.int v10_2001, .int 3]) (rest := [.int r_2092]) ⟨hx, hb, hml, hown, hts⟩ (ok_X4_spot_n l D cI cJ a _ _ _ _ _ hw) (cwV 2 hts gL_holds_X4_spot rfl rfl rfl (by decide +kernel) ⟨Nat.le_of_ble_eq_true rfl, Nat.le_of_ble_eq_true rfl⟩) hK hW hA 0 rfl rfl rfl hl.1 rfl (Nat.le_of_ble_eq_true rfl) dL_holds_348 ⟨Nat.le_of_ble_eq_true rfl, Nat.le_of_ble_eq_true rfl⟩ (fun r_2093 _ H locs hw hW => ?_)
                        refine lv_icmp_lt (tgt := 368) hx hb dL_holds_351 (by decide) (fun hc => ?_) (fun hc => ?_)
                        · have hw := hw.1 hc
                          refine lv_iconst (v := 0) hx hb dL_holds_368 (by decide) ?_
                          refine lv_istore (lv' := [(9, .int 0), (8, .int v8_2049), (7, .int v7_2047), (6, .int v6_2045), (5, .int v5_2043), (4, .int v4_2041), (3, .int v3_2039), (2, .int v2_2037), (1, .int v1_2035), (11, .int r_2033), (0, .ref (a 0)), (10, .int v10_2001)]) hx hb dL_holds_369 hl (by decide) rfl (fun ls hl => ?_)
                          refine lv_iload hx hb dL_holds_371 (lv_at hl 0 rfl) ?_
                          refine lv_if_eq (tgt := 408) hx hb dL_holds_373 (by decide) (fun _ => ?_) (fun hc => absurd (by decide) hc)
                          refine lv_iconst (v := 0) hx hb dL_holds_408 (by decide) ?_
                          refine lv_istore (lv' := [(9, .int 0), (8, .int v8_2049), (7, .int v7_2047), (6, .int v6_2045), (5, .int v5_2043), (4, .int v4_2041), (3, .int v3_2039), (2, .int v2_2037), (1, .int v1_2035), (11, .int r_2033), (0, .ref (a 0)), (10, .int v10_2001)]) hx hb dL_holds_409 hl (by decide) rfl (fun ls hl => ?_)
                          obtain ⟨v10_2094, ev10_2094⟩ : ∃ y : Int32, y = v10_2001 + 1 := ⟨_, rfl⟩
                          have hw := hw v10_2094 ev10_2094
                          refine lv_iinc (v := v10_2094) (lv' := [(10, .int v10_2094), (9, .int 0), (8, .int v8_2049), (7, .int v7_2047), (6, .int v6_2045), (5, .int v5_2043), (4, .int v4_2041), (3, .int v3_2039), (2, .int v2_2037), (1, .int v1_2035), (11, .int r_2033), (0, .ref (a 0))]) hx hb dL_holds_411 hl (k := 11) rfl (by rw [ev10_2094]; rfl) (by decide) rfl (fun ls hl => ?_)
                          refine lv_goto (tgt := 135) hx hb dL_holds_414 (by decide) ?_
                          obtain ⟨n9, hlt9, hI9⟩ := hw
                          exact ih2001 n9 hlt9 _ _ _ _ _ _ _ _ _ _ _ _ _ hI9 hW (lv_sub hl [11, 9, 8, 7, 6, 5, 4, 3, 2, 1, 0] rfl)
                        · have hw := hw.2 hc
                          refine lv_aload_n hx hb dL_holds_354 rfl (lv_at hl 9 rfl) ?_
                          refine lv_iload hx hb dL_holds_355 (lv_at hl 11 rfl) ?_
                          refine lv_iconst (v := 3) hx hb dL_holds_357 (by decide) ?_
                          refine kV_Mi (As := [.int v10_2001, .int 3]) (rest := []) ⟨hx, hb, hml, hown, hts⟩ (ok_X4_spot_n l D cI cJ a _ _ _ _ _ hw) (cwV 2 hts gL_holds_X4_spot rfl rfl rfl (by decide +kernel) ⟨Nat.le_of_ble_eq_true rfl, Nat.le_of_ble_eq_true rfl⟩) hK hW hA 0 rfl rfl rfl hl.1 rfl (Nat.le_of_ble_eq_true rfl) dL_holds_358 ⟨Nat.le_of_ble_eq_true rfl, Nat.le_of_ble_eq_true rfl⟩ (fun r_2095 _ H locs hw hW => ?_)
                          refine lv_if_lt (tgt := 368) hx hb dL_holds_361 (by decide) (fun hc => ?_) (fun hc => ?_)
                          · have hw := hw.1 hc
                            refine lv_iconst (v := 0) hx hb dL_holds_368 (by decide) ?_
                            refine lv_istore (lv' := [(9, .int 0), (8, .int v8_2049), (7, .int v7_2047), (6, .int v6_2045), (5, .int v5_2043), (4, .int v4_2041), (3, .int v3_2039), (2, .int v2_2037), (1, .int v1_2035), (11, .int r_2033), (0, .ref (a 0)), (10, .int v10_2001)]) hx hb dL_holds_369 hl (by decide) rfl (fun ls hl => ?_)
                            refine lv_iload hx hb dL_holds_371 (lv_at hl 0 rfl) ?_
                            refine lv_if_eq (tgt := 408) hx hb dL_holds_373 (by decide) (fun _ => ?_) (fun hc => absurd (by decide) hc)
                            refine lv_iconst (v := 0) hx hb dL_holds_408 (by decide) ?_
                            refine lv_istore (lv' := [(9, .int 0), (8, .int v8_2049), (7, .int v7_2047), (6, .int v6_2045), (5, .int v5_2043), (4, .int v4_2041), (3, .int v3_2039), (2, .int v2_2037), (1, .int v1_2035), (11, .int r_2033), (0, .ref (a 0)), (10, .int v10_2001)]) hx hb dL_holds_409 hl (by decide) rfl (fun ls hl => ?_)
                            obtain ⟨v10_2096, ev10_2096⟩ : ∃ y : Int32, y = v10_2001 + 1 := ⟨_, rfl⟩
                            have hw := hw v10_2096 ev10_2096
                            refine lv_iinc (v := v10_2096) (lv' := [(10, .int v10_2096), (9, .int 0), (8, .int v8_2049), (7, .int v7_2047), (6, .int v6_2045), (5, .int v5_2043), (4, .int v4_2041), (3, .int v3_2039), (2, .int v2_2037), (1, .int v1_2035), (11, .int r_2033), (0, .ref (a 0))]) hx hb dL_holds_411 hl (k := 11) rfl (by rw [ev10_2096]; rfl) (by decide) rfl (fun ls hl => ?_)
                            refine lv_goto (tgt := 135) hx hb dL_holds_414 (by decide) ?_
                            obtain ⟨n9, hlt9, hI9⟩ := hw
                            exact ih2001 n9 hlt9 _ _ _ _ _ _ _ _ _ _ _ _ _ hI9 hW (lv_sub hl [11, 9, 8, 7, 6, 5, 4, 3, 2, 1, 0] rfl)
                          · have hw := hw.2 hc
                            refine lv_iconst (v := 1) hx hb dL_holds_364 (by decide) ?_
                            refine lv_goto (tgt := 369) hx hb dL_holds_365 (by decide) ?_
                            refine lv_istore (lv' := [(9, .int 1), (8, .int v8_2049), (7, .int v7_2047), (6, .int v6_2045), (5, .int v5_2043), (4, .int v4_2041), (3, .int v3_2039), (2, .int v2_2037), (1, .int v1_2035), (11, .int r_2033), (0, .ref (a 0)), (10, .int v10_2001)]) hx hb dL_holds_369 hl (by decide) rfl (fun ls hl => ?_)
                            refine lv_iload hx hb dL_holds_371 (lv_at hl 0 rfl) ?_
                            refine lv_if_eq (tgt := 408) hx hb dL_holds_373 (by decide) (fun hc => absurd hc (by decide)) (fun _ => ?_)
                            refine lv_aload_n hx hb dL_holds_376 rfl (lv_at hl 10 rfl) ?_
                            refine lv_iload hx hb dL_holds_377 (lv_at hl 11 rfl) ?_
                            refine lv_iconst (v := 3) hx hb dL_holds_379 (by decide) ?_
                            refine kV_Mi (As := [.int v10_2001, .int 3]) (rest := []) ⟨hx, hb, hml, hown, hts⟩ (ok_X4_bidder_n l D cI cJ a _ _ _ _ _ hw) (cwV 2 hts gL_holds_X4_bidder rfl rfl rfl (by decide +kernel) ⟨Nat.le_of_ble_eq_true rfl, Nat.le_of_ble_eq_true rfl⟩) hK hW hA 0 rfl rfl rfl hl.1 rfl (Nat.le_of_ble_eq_true rfl) dL_holds_380 ⟨Nat.le_of_ble_eq_true rfl, Nat.le_of_ble_eq_true rfl⟩ (fun r_2097 _ H locs hw hW => ?_)
                            refine lv_iconst (v := (-1)) hx hb dL_holds_383 (by decide) ?_
                            refine lv_icmp_eq (tgt := 404) hx hb dL_holds_384 (by decide) (fun hc => ?_) (fun hc => ?_)
                            · have hw := hw.1 hc
                              refine lv_iconst (v := 1) hx hb dL_holds_404 (by decide) ?_
                              refine lv_goto (tgt := 409) hx hb dL_holds_405 (by decide) ?_
                              refine lv_istore (lv' := [(9, .int 1), (8, .int v8_2049), (7, .int v7_2047), (6, .int v6_2045), (5, .int v5_2043), (4, .int v4_2041), (3, .int v3_2039), (2, .int v2_2037), (1, .int v1_2035), (11, .int r_2033), (0, .ref (a 0)), (10, .int v10_2001)]) hx hb dL_holds_409 hl (by decide) rfl (fun ls hl => ?_)
                              obtain ⟨v10_2098, ev10_2098⟩ : ∃ y : Int32, y = v10_2001 + 1 := ⟨_, rfl⟩
                              have hw := hw v10_2098 ev10_2098
                              refine lv_iinc (v := v10_2098) (lv' := [(10, .int v10_2098), (9, .int 1), (8, .int v8_2049), (7, .int v7_2047), (6, .int v6_2045), (5, .int v5_2043), (4, .int v4_2041), (3, .int v3_2039), (2, .int v2_2037), (1, .int v1_2035), (11, .int r_2033), (0, .ref (a 0))]) hx hb dL_holds_411 hl (k := 11) rfl (by rw [ev10_2098]; rfl) (by decide) rfl (fun ls hl => ?_)
                              refine lv_goto (tgt := 135) hx hb dL_holds_414 (by decide) ?_
                              obtain ⟨n9, hlt9, hI9⟩ := hw
                              exact ih2001 n9 hlt9 _ _ _ _ _ _ _ _ _ _ _ _ _ hI9 hW (lv_sub hl [11, 9, 8, 7, 6, 5, 4, 3, 2, 1, 0] rfl)
                            · have hw := hw.2 hc
                              refine lv_aload_n hx hb dL_holds_387 rfl (lv_at hl 10 rfl) ?_
                              refine lv_aload_n hx hb dL_holds_388 rfl (lv_at hl 10 rfl) ?_
                              refine lv_iload hx hb dL_holds_389 (lv_at hl 11 rfl) ?_
                              refine lv_iconst (v := 3) hx hb dL_holds_391 (by decide) ?_
                              refine kV_Mi (As := [.int v10_2001, .int 3]) (rest := [.ref (a 0)]) ⟨hx, hb, hml, hown, hts⟩ (ok_X4_bidder_n l D cI cJ a _ _ _ _ _ hw) (cwV 2 hts gL_holds_X4_bidder rfl rfl rfl (by decide +kernel) ⟨Nat.le_of_ble_eq_true rfl, Nat.le_of_ble_eq_true rfl⟩) hK hW hA 0 rfl rfl rfl hl.1 rfl (Nat.le_of_ble_eq_true rfl) dL_holds_392 ⟨Nat.le_of_ble_eq_true rfl, Nat.le_of_ble_eq_true rfl⟩ (fun r_2099 _ H locs hw hW => ?_)
                              refine lv_iconst (v := 2) hx hb dL_holds_395 (by decide) ?_
                              refine kV_Mi (As := [.int r_2099, .int 2]) (rest := []) ⟨hx, hb, hml, hown, hts⟩ (ok_X4_spot_n l D cI cJ a _ _ _ _ _ hw) (cwV 2 hts gL_holds_X4_spot rfl rfl rfl (by decide +kernel) ⟨Nat.le_of_ble_eq_true rfl, Nat.le_of_ble_eq_true rfl⟩) hK hW hA 0 rfl rfl rfl hl.1 rfl (Nat.le_of_ble_eq_true rfl) dL_holds_396 ⟨Nat.le_of_ble_eq_true rfl, Nat.le_of_ble_eq_true rfl⟩ (fun r_2100 _ H locs hw hW => ?_)
                              refine lv_iload hx hb dL_holds_399 (lv_at hl 11 rfl) ?_
                              refine lv_icmp_ne (tgt := 408) hx hb dL_holds_401 (by decide) (fun hc => ?_) (fun hc => ?_)
                              · have hw := hw.1 hc
                                refine lv_iconst (v := 0) hx hb dL_holds_408 (by decide) ?_
                                refine lv_istore (lv' := [(9, .int 0), (8, .int v8_2049), (7, .int v7_2047), (6, .int v6_2045), (5, .int v5_2043), (4, .int v4_2041), (3, .int v3_2039), (2, .int v2_2037), (1, .int v1_2035), (11, .int r_2033), (0, .ref (a 0)), (10, .int v10_2001)]) hx hb dL_holds_409 hl (by decide) rfl (fun ls hl => ?_)
                                obtain ⟨v10_2101, ev10_2101⟩ : ∃ y : Int32, y = v10_2001 + 1 := ⟨_, rfl⟩
                                have hw := hw v10_2101 ev10_2101
                                refine lv_iinc (v := v10_2101) (lv' := [(10, .int v10_2101), (9, .int 0), (8, .int v8_2049), (7, .int v7_2047), (6, .int v6_2045), (5, .int v5_2043), (4, .int v4_2041), (3, .int v3_2039), (2, .int v2_2037), (1, .int v1_2035), (11, .int r_2033), (0, .ref (a 0))]) hx hb dL_holds_411 hl (k := 11) rfl (by rw [ev10_2101]; rfl) (by decide) rfl (fun ls hl => ?_)
                                refine lv_goto (tgt := 135) hx hb dL_holds_414 (by decide) ?_
                                obtain ⟨n9, hlt9, hI9⟩ := hw
                                exact ih2001 n9 hlt9 _ _ _ _ _ _ _ _ _ _ _ _ _ hI9 hW (lv_sub hl [11, 9, 8, 7, 6, 5, 4, 3, 2, 1, 0] rfl)
                              · have hw := hw.2 hc
                                refine lv_iconst (v := 1) hx hb dL_holds_404 (by decide) ?_
                                refine lv_goto (tgt := 409) hx hb dL_holds_405 (by decide) ?_
                                refine lv_istore (lv' := [(9, .int 1), (8, .int v8_2049), (7, .int v7_2047), (6, .int v6_2045), (5, .int v5_2043), (4, .int v4_2041), (3, .int v3_2039), (2, .int v2_2037), (1, .int v1_2035), (11, .int r_2033), (0, .ref (a 0)), (10, .int v10_2001)]) hx hb dL_holds_409 hl (by decide) rfl (fun ls hl => ?_)
                                obtain ⟨v10_2102, ev10_2102⟩ : ∃ y : Int32, y = v10_2001 + 1 := ⟨_, rfl⟩
                                have hw := hw v10_2102 ev10_2102
                                refine lv_iinc (v := v10_2102) (lv' := [(10, .int v10_2102), (9, .int 1), (8, .int v8_2049), (7, .int v7_2047), (6, .int v6_2045), (5, .int v5_2043), (4, .int v4_2041), (3, .int v3_2039), (2, .int v2_2037), (1, .int v1_2035), (11, .int r_2033), (0, .ref (a 0))]) hx hb dL_holds_411 hl (k := 11) rfl (by rw [ev10_2102]; rfl) (by decide) rfl (fun ls hl => ?_)
                                refine lv_goto (tgt := 135) hx hb dL_holds_414 (by decide) ?_
                                obtain ⟨n9, hlt9, hI9⟩ := hw
                                exact ih2001 n9 hlt9 _ _ _ _ _ _ _ _ _ _ _ _ _ hI9 hW (lv_sub hl [11, 9, 8, 7, 6, 5, 4, 3, 2, 1, 0] rfl)
def wps_L_holds_129 (σ : CS) (x1 : Int32) (x2 : Int32) (x3 : Int32) (x4 : Int32) (x5 : Int32) (x6 : Int32) (x7 : Int32) (x8 : Int32) (post : Int32 → Prop) : Prop := wps_L_holds_130 σ x1 x2 x3 x4 x5 x6 x7 x8 0 post
set_option maxHeartbeats 4000000 in
set_option maxRecDepth 100000 in
theorem sg_L_holds_129 {p : Program} {l : Launch} {e : Env} {s : State} {m : MethodId} {args : Array Value} {below : List Frame} {meth : Method} {c : Code} {A : Nat → Prop} {Q : State → Prop} {D : va_G} {cI cJ : ClassId} {a : Nat → Nat} {σ : CS} {post : Int32 → Prop} (hx : p.tables.exec = Jvm.exec) (hb : c.code = cL_holds) (hml : c.maxLocals = 12) (hts : ∀ w ∈ wsL_holds, w.before args s = true) (hown : s.vm.findClass RL = some m.cls) (hK : va_K D vwCl (tysIJ cI cJ) s) (hA : ∀ q : Nat, s.heap.size ≤ q → A q) (hret : ∀ (v : Int32) (u : Unit) (H : Heap) (locs : List Loc) (pc : Nat) (ls : Array Slot), narrow .boolean (.int v) = .int v → post v → Wd D A s.heap (cW cI cJ a σ) H locs → decode cL_holds pc = .ok (.ireturn, 1) → W p l e rm_L_holds s m args below meth c H locs 0 0 Q (F0 m pc ls [.int v]))  (x1 : Int32) (x2 : Int32) (x3 : Int32) (x4 : Int32) (x5 : Int32) (x6 : Int32) (x7 : Int32) (x8 : Int32) (H : Heap) (locs : List Loc) (ls : Array Slot) (hw : wps_L_holds_129 σ x1 x2 x3 x4 x5 x6 x7 x8 post) (hW : Wd D A s.heap (cW cI cJ a σ) H locs) (hl : lv_has ls 12 [(0, .ref (a 0)), (1, .int x1), (2, .int x2), (3, .int x3), (4, .int x4), (5, .int x5), (6, .int x6), (7, .int x7), (8, .int x8)]) : W p l e rm_L_holds s m args below meth c H locs 0 0 Q (F0 m 129 ls []) := by
  refine lv_iconst (v := 0) hx hb dL_holds_129 (by decide) ?_
  exact sg_L_holds_130 hx hb hml hts hown hK hA hret x1 x2 x3 x4 x5 x6 x7 x8 0 _ _ _ hw hW (lv_sub hl [0, 1, 2, 3, 4, 5, 6, 7, 8] rfl)
def wp_L_holds (σ : CS) (post : Int32 → Prop) : Prop := wp_X4_count σ 4 (fun r_1 => wp_X4_count σ 5 (fun r_2 => wp_X4_count σ 6 (fun r_3 => ((¬ (r_1 + r_2) = r_3 → wps_L_holds_129 σ 0 0 0 0 0 0 0 0 post) ∧ ((r_1 + r_2) = r_3 → wp_X4_count σ 4 (fun r_4 => wp_X4_count σ 7 (fun r_5 => wp_X4_count σ 8 (fun r_6 => ((¬ r_4 = (r_5 + r_6) → wps_L_holds_129 σ 0 0 0 0 0 0 0 0 post) ∧ (r_4 = (r_5 + r_6) → wp_X4_count σ 6 (fun r_7 => ((r_7 < 600 → wps_L_holds_129 σ 0 0 0 0 0 0 0 0 post) ∧ (¬ r_7 < 600 → wp_X4_count σ 6 (fun r_8 => ((9999 < r_8 → wps_L_holds_129 σ 0 0 0 0 0 0 0 0 post) ∧ (¬ 9999 < r_8 → wp_X4_count σ 12 (fun r_9 => wp_X4_count σ 3 (fun r_10 => wp_X4_count σ 13 (fun r_11 => ((r_9 < (r_10 + r_11) → wps_L_holds_129 σ 0 0 0 0 0 0 0 0 post) ∧ (¬ r_9 < (r_10 + r_11) → wp_X4_count σ 1 (fun r_12 => ((r_12 < 0 → wps_L_holds_129 σ 0 0 0 0 0 0 0 0 post) ∧ (¬ r_12 < 0 → wp_X4_count σ 1 (fun r_13 => ((23 < r_13 → wps_L_holds_129 σ 0 0 0 0 0 0 0 0 post) ∧ (¬ 23 < r_13 → wps_L_holds_130 σ 0 0 0 0 0 0 0 0 1 post))) (fun _ => False)))) (fun _ => False)))) (fun _ => False)) (fun _ => False)) (fun _ => False)))) (fun _ => False)))) (fun _ => False)))) (fun _ => False)) (fun _ => False)) (fun _ => False)))) (fun _ => False)) (fun _ => False)) (fun _ => False)
set_option maxHeartbeats 4000000 in
set_option maxRecDepth 100000 in
theorem ok_L_holds (l : Launch) (D : va_G) (cI cJ : ClassId) (a : Nat → Nat) (sz : Nat) (σ : CS) (post : Int32 → Prop) (hw : wp_L_holds σ post) : Mi l yL_holds wsL_holds rm_L_holds [.ref (a 0)] D (tysIJ cI cJ) (cW cI cJ a σ) sz (fun r (_ : Unit) => post r) (fun _ => cW cI cJ a σ) := by
  refine s_Mz (by decide) rfl (Nat.le_of_ble_eq_true rfl) ?_
  intro p e s m args below meth c A Q hx hb hml hts hown hin hK hA hret H locs ls hW hl
  have hown : s.vm.findClass RL = some m.cls := hown
  have hl : lv_has ls 12 [(0, .ref (a 0))] := hl
  refine lv_iconst (v := 0) hx hb dL_holds_0 (by decide) ?_
  refine lv_istore_n (lv' := [(1, .int 0), (0, .ref (a 0))]) hx hb dL_holds_1 rfl hl (by decide) rfl (fun ls hl => ?_)
  refine lv_iconst (v := 0) hx hb dL_holds_2 (by decide) ?_
  refine lv_istore_n (lv' := [(2, .int 0), (1, .int 0), (0, .ref (a 0))]) hx hb dL_holds_3 rfl hl (by decide) rfl (fun ls hl => ?_)
  refine lv_iconst (v := 0) hx hb dL_holds_4 (by decide) ?_
  refine lv_istore_n (lv' := [(3, .int 0), (2, .int 0), (1, .int 0), (0, .ref (a 0))]) hx hb dL_holds_5 rfl hl (by decide) rfl (fun ls hl => ?_)
  refine lv_iconst (v := 0) hx hb dL_holds_6 (by decide) ?_
  refine lv_istore (lv' := [(4, .int 0), (3, .int 0), (2, .int 0), (1, .int 0), (0, .ref (a 0))]) hx hb dL_holds_7 hl (by decide) rfl (fun ls hl => ?_)
  refine lv_iconst (v := 0) hx hb dL_holds_9 (by decide) ?_
  refine lv_istore (lv' := [(5, .int 0), (4, .int 0), (3, .int 0), (2, .int 0), (1, .int 0), (0, .ref (a 0))]) hx hb dL_holds_10 hl (by decide) rfl (fun ls hl => ?_)
  refine lv_iconst (v := 0) hx hb dL_holds_12 (by decide) ?_
  refine lv_istore (lv' := [(6, .int 0), (5, .int 0), (4, .int 0), (3, .int 0), (2, .int 0), (1, .int 0), (0, .ref (a 0))]) hx hb dL_holds_13 hl (by decide) rfl (fun ls hl => ?_)
  refine lv_iconst (v := 0) hx hb dL_holds_15 (by decide) ?_
  refine lv_istore (lv' := [(7, .int 0), (6, .int 0), (5, .int 0), (4, .int 0), (3, .int 0), (2, .int 0), (1, .int 0), (0, .ref (a 0))]) hx hb dL_holds_16 hl (by decide) rfl (fun ls hl => ?_)
  refine lv_iconst (v := 0) hx hb dL_holds_18 (by decide) ?_
  refine lv_istore (lv' := [(8, .int 0), (7, .int 0), (6, .int 0), (5, .int 0), (4, .int 0), (3, .int 0), (2, .int 0), (1, .int 0), (0, .ref (a 0))]) hx hb dL_holds_19 hl (by decide) rfl (fun ls hl => ?_)
  refine lv_aload_n hx hb dL_holds_21 rfl (lv_at hl 8 rfl) ?_
  refine lv_iconst (v := 4) hx hb dL_holds_22 (by decide) ?_
  refine kV_Mi (As := [.int 4]) (rest := []) ⟨hx, hb, hml, hown, hts⟩ (ok_X4_count_n l D cI cJ a _ _ _ _ hw) (cwV 1 hts gL_holds_X4_count rfl rfl rfl (by decide +kernel) ⟨Nat.le_of_ble_eq_true rfl, Nat.le_of_ble_eq_true rfl⟩) hK hW hA 0 rfl rfl rfl hl.1 rfl (Nat.le_of_ble_eq_true rfl) dL_holds_23 ⟨Nat.le_of_ble_eq_true rfl, Nat.le_of_ble_eq_true rfl⟩ (fun r_1 _ H locs hw hW => ?_)
  refine lv_aload_n hx hb dL_holds_26 rfl (lv_at hl 8 rfl) ?_
  refine lv_iconst (v := 5) hx hb dL_holds_27 (by decide) ?_
  refine kV_Mi (As := [.int 5]) (rest := [.int r_1]) ⟨hx, hb, hml, hown, hts⟩ (ok_X4_count_n l D cI cJ a _ _ _ _ hw) (cwV 1 hts gL_holds_X4_count rfl rfl rfl (by decide +kernel) ⟨Nat.le_of_ble_eq_true rfl, Nat.le_of_ble_eq_true rfl⟩) hK hW hA 0 rfl rfl rfl hl.1 rfl (Nat.le_of_ble_eq_true rfl) dL_holds_28 ⟨Nat.le_of_ble_eq_true rfl, Nat.le_of_ble_eq_true rfl⟩ (fun r_2 _ H locs hw hW => ?_)
  refine lv_iadd hx hb dL_holds_31 ?_
  refine lv_aload_n hx hb dL_holds_32 rfl (lv_at hl 8 rfl) ?_
  refine lv_bipush (v := 6) hx hb dL_holds_33 (by decide) ?_
  refine kV_Mi (As := [.int 6]) (rest := [.int (r_1 + r_2)]) ⟨hx, hb, hml, hown, hts⟩ (ok_X4_count_n l D cI cJ a _ _ _ _ hw) (cwV 1 hts gL_holds_X4_count rfl rfl rfl (by decide +kernel) ⟨Nat.le_of_ble_eq_true rfl, Nat.le_of_ble_eq_true rfl⟩) hK hW hA 0 rfl rfl rfl hl.1 rfl (Nat.le_of_ble_eq_true rfl) dL_holds_35 ⟨Nat.le_of_ble_eq_true rfl, Nat.le_of_ble_eq_true rfl⟩ (fun r_3 _ H locs hw hW => ?_)
  refine lv_icmp_ne (tgt := 129) hx hb dL_holds_38 (by decide) (fun hc => ?_) (fun hc => ?_)
  · have hw := hw.1 hc
    exact sg_L_holds_129 hx hb hml hts hown hK hA hret 0 0 0 0 0 0 0 0 _ _ _ hw hW (lv_sub hl [8, 7, 6, 5, 4, 3, 2, 1, 0] rfl)
  · have hw := hw.2 hc
    refine lv_aload_n hx hb dL_holds_41 rfl (lv_at hl 8 rfl) ?_
    refine lv_iconst (v := 4) hx hb dL_holds_42 (by decide) ?_
    refine kV_Mi (As := [.int 4]) (rest := []) ⟨hx, hb, hml, hown, hts⟩ (ok_X4_count_n l D cI cJ a _ _ _ _ hw) (cwV 1 hts gL_holds_X4_count rfl rfl rfl (by decide +kernel) ⟨Nat.le_of_ble_eq_true rfl, Nat.le_of_ble_eq_true rfl⟩) hK hW hA 0 rfl rfl rfl hl.1 rfl (Nat.le_of_ble_eq_true rfl) dL_holds_43 ⟨Nat.le_of_ble_eq_true rfl, Nat.le_of_ble_eq_true rfl⟩ (fun r_4 _ H locs hw hW => ?_)
    refine lv_aload_n hx hb dL_holds_46 rfl (lv_at hl 8 rfl) ?_
    refine lv_bipush (v := 7) hx hb dL_holds_47 (by decide) ?_
    refine kV_Mi (As := [.int 7]) (rest := [.int r_4]) ⟨hx, hb, hml, hown, hts⟩ (ok_X4_count_n l D cI cJ a _ _ _ _ hw) (cwV 1 hts gL_holds_X4_count rfl rfl rfl (by decide +kernel) ⟨Nat.le_of_ble_eq_true rfl, Nat.le_of_ble_eq_true rfl⟩) hK hW hA 0 rfl rfl rfl hl.1 rfl (Nat.le_of_ble_eq_true rfl) dL_holds_49 ⟨Nat.le_of_ble_eq_true rfl, Nat.le_of_ble_eq_true rfl⟩ (fun r_5 _ H locs hw hW => ?_)
    refine lv_aload_n hx hb dL_holds_52 rfl (lv_at hl 8 rfl) ?_
    refine lv_bipush (v := 8) hx hb dL_holds_53 (by decide) ?_
    refine kV_Mi (As := [.int 8]) (rest := [.int r_5, .int r_4]) ⟨hx, hb, hml, hown, hts⟩ (ok_X4_count_n l D cI cJ a _ _ _ _ hw) (cwV 1 hts gL_holds_X4_count rfl rfl rfl (by decide +kernel) ⟨Nat.le_of_ble_eq_true rfl, Nat.le_of_ble_eq_true rfl⟩) hK hW hA 0 rfl rfl rfl hl.1 rfl (Nat.le_of_ble_eq_true rfl) dL_holds_55 ⟨Nat.le_of_ble_eq_true rfl, Nat.le_of_ble_eq_true rfl⟩ (fun r_6 _ H locs hw hW => ?_)
    refine lv_iadd hx hb dL_holds_58 ?_
    refine lv_icmp_ne (tgt := 129) hx hb dL_holds_59 (by decide) (fun hc => ?_) (fun hc => ?_)
    · have hw := hw.1 hc
      exact sg_L_holds_129 hx hb hml hts hown hK hA hret 0 0 0 0 0 0 0 0 _ _ _ hw hW (lv_sub hl [8, 7, 6, 5, 4, 3, 2, 1, 0] rfl)
    · have hw := hw.2 hc
      refine lv_aload_n hx hb dL_holds_62 rfl (lv_at hl 8 rfl) ?_
      refine lv_bipush (v := 6) hx hb dL_holds_63 (by decide) ?_
      refine kV_Mi (As := [.int 6]) (rest := []) ⟨hx, hb, hml, hown, hts⟩ (ok_X4_count_n l D cI cJ a _ _ _ _ hw) (cwV 1 hts gL_holds_X4_count rfl rfl rfl (by decide +kernel) ⟨Nat.le_of_ble_eq_true rfl, Nat.le_of_ble_eq_true rfl⟩) hK hW hA 0 rfl rfl rfl hl.1 rfl (Nat.le_of_ble_eq_true rfl) dL_holds_65 ⟨Nat.le_of_ble_eq_true rfl, Nat.le_of_ble_eq_true rfl⟩ (fun r_7 _ H locs hw hW => ?_)
      refine lv_sipush (v := 600) hx hb dL_holds_68 (by decide) ?_
      refine lv_icmp_lt (tgt := 129) hx hb dL_holds_71 (by decide) (fun hc => ?_) (fun hc => ?_)
      · have hw := hw.1 hc
        exact sg_L_holds_129 hx hb hml hts hown hK hA hret 0 0 0 0 0 0 0 0 _ _ _ hw hW (lv_sub hl [8, 7, 6, 5, 4, 3, 2, 1, 0] rfl)
      · have hw := hw.2 hc
        refine lv_aload_n hx hb dL_holds_74 rfl (lv_at hl 8 rfl) ?_
        refine lv_bipush (v := 6) hx hb dL_holds_75 (by decide) ?_
        refine kV_Mi (As := [.int 6]) (rest := []) ⟨hx, hb, hml, hown, hts⟩ (ok_X4_count_n l D cI cJ a _ _ _ _ hw) (cwV 1 hts gL_holds_X4_count rfl rfl rfl (by decide +kernel) ⟨Nat.le_of_ble_eq_true rfl, Nat.le_of_ble_eq_true rfl⟩) hK hW hA 0 rfl rfl rfl hl.1 rfl (Nat.le_of_ble_eq_true rfl) dL_holds_77 ⟨Nat.le_of_ble_eq_true rfl, Nat.le_of_ble_eq_true rfl⟩ (fun r_8 _ H locs hw hW => ?_)
        refine lv_sipush (v := 9999) hx hb dL_holds_80 (by decide) ?_
        refine lv_icmp_gt (tgt := 129) hx hb dL_holds_83 (by decide) (fun hc => ?_) (fun hc => ?_)
        · have hw := hw.1 hc
          exact sg_L_holds_129 hx hb hml hts hown hK hA hret 0 0 0 0 0 0 0 0 _ _ _ hw hW (lv_sub hl [8, 7, 6, 5, 4, 3, 2, 1, 0] rfl)
        · have hw := hw.2 hc
          refine lv_aload_n hx hb dL_holds_86 rfl (lv_at hl 8 rfl) ?_
          refine lv_bipush (v := 12) hx hb dL_holds_87 (by decide) ?_
          refine kV_Mi (As := [.int 12]) (rest := []) ⟨hx, hb, hml, hown, hts⟩ (ok_X4_count_n l D cI cJ a _ _ _ _ hw) (cwV 1 hts gL_holds_X4_count rfl rfl rfl (by decide +kernel) ⟨Nat.le_of_ble_eq_true rfl, Nat.le_of_ble_eq_true rfl⟩) hK hW hA 0 rfl rfl rfl hl.1 rfl (Nat.le_of_ble_eq_true rfl) dL_holds_89 ⟨Nat.le_of_ble_eq_true rfl, Nat.le_of_ble_eq_true rfl⟩ (fun r_9 _ H locs hw hW => ?_)
          refine lv_aload_n hx hb dL_holds_92 rfl (lv_at hl 8 rfl) ?_
          refine lv_iconst (v := 3) hx hb dL_holds_93 (by decide) ?_
          refine kV_Mi (As := [.int 3]) (rest := [.int r_9]) ⟨hx, hb, hml, hown, hts⟩ (ok_X4_count_n l D cI cJ a _ _ _ _ hw) (cwV 1 hts gL_holds_X4_count rfl rfl rfl (by decide +kernel) ⟨Nat.le_of_ble_eq_true rfl, Nat.le_of_ble_eq_true rfl⟩) hK hW hA 0 rfl rfl rfl hl.1 rfl (Nat.le_of_ble_eq_true rfl) dL_holds_94 ⟨Nat.le_of_ble_eq_true rfl, Nat.le_of_ble_eq_true rfl⟩ (fun r_10 _ H locs hw hW => ?_)
          refine lv_aload_n hx hb dL_holds_97 rfl (lv_at hl 8 rfl) ?_
          refine lv_bipush (v := 13) hx hb dL_holds_98 (by decide) ?_
          refine kV_Mi (As := [.int 13]) (rest := [.int r_10, .int r_9]) ⟨hx, hb, hml, hown, hts⟩ (ok_X4_count_n l D cI cJ a _ _ _ _ hw) (cwV 1 hts gL_holds_X4_count rfl rfl rfl (by decide +kernel) ⟨Nat.le_of_ble_eq_true rfl, Nat.le_of_ble_eq_true rfl⟩) hK hW hA 0 rfl rfl rfl hl.1 rfl (Nat.le_of_ble_eq_true rfl) dL_holds_100 ⟨Nat.le_of_ble_eq_true rfl, Nat.le_of_ble_eq_true rfl⟩ (fun r_11 _ H locs hw hW => ?_)
          refine lv_iadd hx hb dL_holds_103 ?_
          refine lv_icmp_lt (tgt := 129) hx hb dL_holds_104 (by decide) (fun hc => ?_) (fun hc => ?_)
          · have hw := hw.1 hc
            exact sg_L_holds_129 hx hb hml hts hown hK hA hret 0 0 0 0 0 0 0 0 _ _ _ hw hW (lv_sub hl [8, 7, 6, 5, 4, 3, 2, 1, 0] rfl)
          · have hw := hw.2 hc
            refine lv_aload_n hx hb dL_holds_107 rfl (lv_at hl 8 rfl) ?_
            refine lv_iconst (v := 1) hx hb dL_holds_108 (by decide) ?_
            refine kV_Mi (As := [.int 1]) (rest := []) ⟨hx, hb, hml, hown, hts⟩ (ok_X4_count_n l D cI cJ a _ _ _ _ hw) (cwV 1 hts gL_holds_X4_count rfl rfl rfl (by decide +kernel) ⟨Nat.le_of_ble_eq_true rfl, Nat.le_of_ble_eq_true rfl⟩) hK hW hA 0 rfl rfl rfl hl.1 rfl (Nat.le_of_ble_eq_true rfl) dL_holds_109 ⟨Nat.le_of_ble_eq_true rfl, Nat.le_of_ble_eq_true rfl⟩ (fun r_12 _ H locs hw hW => ?_)
            refine lv_if_lt (tgt := 129) hx hb dL_holds_112 (by decide) (fun hc => ?_) (fun hc => ?_)
            · have hw := hw.1 hc
              exact sg_L_holds_129 hx hb hml hts hown hK hA hret 0 0 0 0 0 0 0 0 _ _ _ hw hW (lv_sub hl [8, 7, 6, 5, 4, 3, 2, 1, 0] rfl)
            · have hw := hw.2 hc
              refine lv_aload_n hx hb dL_holds_115 rfl (lv_at hl 8 rfl) ?_
              refine lv_iconst (v := 1) hx hb dL_holds_116 (by decide) ?_
              refine kV_Mi (As := [.int 1]) (rest := []) ⟨hx, hb, hml, hown, hts⟩ (ok_X4_count_n l D cI cJ a _ _ _ _ hw) (cwV 1 hts gL_holds_X4_count rfl rfl rfl (by decide +kernel) ⟨Nat.le_of_ble_eq_true rfl, Nat.le_of_ble_eq_true rfl⟩) hK hW hA 0 rfl rfl rfl hl.1 rfl (Nat.le_of_ble_eq_true rfl) dL_holds_117 ⟨Nat.le_of_ble_eq_true rfl, Nat.le_of_ble_eq_true rfl⟩ (fun r_13 _ H locs hw hW => ?_)
              refine lv_bipush (v := 23) hx hb dL_holds_120 (by decide) ?_
              refine lv_icmp_gt (tgt := 129) hx hb dL_holds_122 (by decide) (fun hc => ?_) (fun hc => ?_)
              · have hw := hw.1 hc
                exact sg_L_holds_129 hx hb hml hts hown hK hA hret 0 0 0 0 0 0 0 0 _ _ _ hw hW (lv_sub hl [8, 7, 6, 5, 4, 3, 2, 1, 0] rfl)
              · have hw := hw.2 hc
                refine lv_iconst (v := 1) hx hb dL_holds_125 (by decide) ?_
                refine lv_goto (tgt := 130) hx hb dL_holds_126 (by decide) ?_
                exact sg_L_holds_130 hx hb hml hts hown hK hA hret 0 0 0 0 0 0 0 0 1 _ _ _ hw hW (lv_sub hl [8, 7, 6, 5, 4, 3, 2, 1, 0] rfl)
