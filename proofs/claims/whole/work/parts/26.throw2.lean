/-! the words for throwing, by program (wip/whole/genthr.py) -/
def jXr : List (Nat × String × Nat × Nat × Nat × ByteArray × Nat × Nat × List Nat) := [(12, "java/lang/IllegalArgumentException", 88, 92, 7, prog_18_method_2_code, 2110, 1017, [1014, 2132, 2141, 2146, 2149, 2151, 2133, 2134, 1032, 1033, 2135, 2140, 2147, 2167, 2122, 2168, 2124, 2169, 2126, 2136, 2137, 2138, 2139, 2128, 2163, 2164, 2166, 2128, 2154, 2155, 2156, 2157, 2114, 2157, 2158, 2159, 2160, 2116, 2160, 2161, 2162, 2163, 2118, 2153, 2111, 2119, 2120, 2121, 2123, 2125, 2127, 2129, 0, 0, 2131, 2130]), (13, "java/lang/IllegalStateException", 99, 103, 7, prog_19_method_2_code, 2179, 1018, [1014, 2132, 2141, 2146, 2149, 2151, 2133, 2134, 1032, 1033, 2135, 2140, 2147, 2167, 2122, 2168, 2124, 2169, 2126, 2136, 2137, 2138, 2139, 2128, 2163, 2164, 2166, 2128, 2190, 2191, 2192, 2157, 2114, 2157, 2158, 2159, 2160, 2116, 2160, 2161, 2162, 2163, 2118, 2189, 2180, 2182, 2143, 2183, 2184, 2185, 2186, 2187, 0, 0, 2131, 2130]), (14, "java/lang/UnsupportedOperationException", 228, 232, 7, prog_26_method_2_code, 4179, 1024, [1014, 2132, 2141, 2146, 2149, 2151, 2133, 2134, 1032, 1033, 2135, 2140, 2147, 2167, 2122, 2168, 2124, 2169, 2126, 2136, 2137, 2138, 2139, 2128, 2163, 2164, 2166, 2128, 4190, 4191, 4192, 2157, 2114, 2157, 2158, 2159, 2160, 2116, 2160, 2161, 2162, 2163, 2118, 4189, 4180, 4182, 2144, 4183, 4184, 4185, 4186, 4187, 0, 0, 2131, 2130]), (15, "java/util/NoSuchElementException", 164, 168, 13, prog_28_method_4_code, 4195, 1025, [1014, 2132, 2141, 2146, 2149, 2151, 2133, 2134, 1032, 1033, 2135, 2140, 2147, 2167, 2122, 2168, 2124, 2169, 2126, 2136, 2137, 2138, 2139, 2128, 2163, 2164, 2166, 2128, 4206, 4207, 4208, 2157, 2114, 2157, 2158, 2159, 2160, 2116, 2160, 2161, 2162, 2163, 2118, 4205, 4196, 4198, 2145, 4199, 4200, 4201, 4202, 4203, 0, 0, 2131, 2130])]

abbrev jXq : Type := Nat × String × Nat × Nat × Nat × ByteArray × Nat × Nat × List Nat
def jAt (p : Nat) (w : Jvm.Cond) : Bool := decide (jw p = some w) && (goodWord w || (w.onTables && w.keepsFace))
def jXe (w : Jvm.Cond) : Bool := decide (w ∈ ([.isRef (.static "java/lang/Throwable" "UNASSIGNED_STACK" "[Ljava/lang/StackTraceElement;"), .isRef (.static "java/lang/Throwable" "SUPPRESSED_SENTINEL" "Ljava/util/List;"), .laysStatic "java/lang/Throwable" "UNASSIGNED_STACK" "[Ljava/lang/StackTraceElement;", .laysStatic "java/lang/Throwable" "SUPPRESSED_SENTINEL" "Ljava/util/List;"] : List Jvm.Cond))
def jXa (q : jXq) : List Jvm.Cond := jYw q.2.2.2.1 q.2.1 q.2.2.2.2.1 q.2.2.2.2.2.1
def jXz : List Jvm.Cond → List Nat → Bool
  | [], _ => true
  | w :: ws, p :: ps => (jAt p w || jXe w) && jXz ws ps
  | _ :: _, [] => false
theorem jXz_ok {w : Jvm.Cond} : ∀ {ws : List Jvm.Cond} {ps : List Nat}, jXz ws ps = true → w ∈ ws → (∃ p, jAt p w = true) ∨ jXe w = true
  | [], _, _, h => by cases h
  | w0 :: ws, p :: ps, h, hm => by
    unfold jXz at h
    rw [Bool.and_eq_true, Bool.or_eq_true] at h
    rcases List.mem_cons.mp hm with rfl | hm
    · exact h.1.imp (fun z => ⟨p, z⟩) id
    · exact jXz_ok h.2 hm
  | _ :: _, [], h, _ => by cases h
def jXc (q : jXq) : Bool := jXz (jXa q) q.2.2.2.2.2.2.2.2 && jIn q.2.2.2.2.2.2.1 (.classLink "GoalDesk" q.2.2.1 q.2.1) && jIn q.2.2.2.2.2.2.2.1 (.initialized q.2.1) && jIn (q.2.2.2.2.2.2.2.2.getD 44 0) (.instantiable q.2.1 6) &&
  Bundle.fit q.2.1 && decide ((cl0[q.1]?).map (fun z => (z.1, z.2.2)) = some (q.2.1, 0)) && decide (decode q.2.2.2.2.2.1 0 = .ok (.aload_n 0, 1)) && decide (decode q.2.2.2.2.2.1 1 = .ok (.aload_n 1, 1)) && decide (decode q.2.2.2.2.2.1 2 = .ok (.invokespecial q.2.2.2.2.1, 3)) && decide (decode q.2.2.2.2.2.1 5 = .ok (.return_, 1))
theorem jXr_ok : jXr.all jXc = true := by decide +kernel
