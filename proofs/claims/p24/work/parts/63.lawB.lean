set_option maxRecDepth 100000 in
set_option maxHeartbeats 8000000 in
theorem w_LB {p : Program} {l : Launch} (hfl : l.stackTraces = false) {e : Env} {s : State} {m : MethodId} {below : List Frame} {meth : Method} {c : Code} {κ : KP} {γ : St} {res : Nat × Int32 × St} {xs : Nat → Int32} {Ln : Nat} (hq : x_LB xs Ln γ = res) (hk : res.1 = 0) {b : Nat} (hv : res.2.1 = 1) (hr : meth.sig.returnType = ret) (hB0 : kB κ = s.heap.size) (hX : va_X b Ln xs s s.heap) (hbl : b < s.heap.size) {H : Heap} {locs : List Loc} {ls : Array Slot} {cells slots : Nat} (hC : CX κ cL_law "PhrasehallLaw" 21 p l s m #[Value.ref b] meth c) (hH : HE κ γ H) (hS : va_S (AA κ) s.heap H locs) (hl : lv_has ls 21 [(0, .ref b), (2, .ref (kA κ 7 0))]) (hc1 : cells + 233772 ≤ 239061) (hc2 : slots + 2293376 ≤ 2388772) : W p l e room_1 s m #[Value.ref b] below meth c H locs cells slots (lw_Z below #[Value.ref b] s) (F0 m 80 ls []) := by
  obtain ⟨hx, hb, hown, hT, -, -, -, -, hml, hlk⟩ := id hC
  have hbA : ¬ (AA κ) b := by show ¬ kB κ ≤ b; rw [hB0]; omega
  have b_1161 : ∀ (γ : St) (H : Heap) (locs : List Loc) (ls : Array Slot) (cells slots : Nat), lv_has ls 21 [] → HE κ γ H → va_S (AA κ) s.heap H locs → cells + (0) ≤ 239061 → slots + (0) ≤ 2388772 → x_LB_1161 xs Ln γ = res → W p l e room_1 s m #[Value.ref b] below meth c H locs cells slots (lw_Z below #[Value.ref b] s) (F0 m 1161 ls []) := by
    intro γ H locs ls cells slots hl hH hS hc1 hc2 hq
    refine lv_iconst (v := 0) hx hb dL_law_1161 (by decide) ?_
    subst hq
    exact absurd (show (0 : Int32) = 1 from hv) (by decide)
  have b_977 : ∀ (γ : St) (H : Heap) (locs : List Loc) (ls : Array Slot) (cells slots : Nat), lv_has ls 21 [] → HE κ γ H → va_S (AA κ) s.heap H locs → cells + (0) ≤ 239061 → slots + (0) ≤ 2388772 → x_LB_977 xs Ln γ = res → W p l e room_1 s m #[Value.ref b] below meth c H locs cells slots (lw_Z below #[Value.ref b] s) (F0 m 977 ls []) := by
    intro γ H locs ls cells slots hl hH hS hc1 hc2 hq
    refine lv_iconst (v := 0) hx hb dL_law_977 (by decide) ?_
    subst hq
    exact absurd (show (0 : Int32) = 1 from hv) (by decide)
  have b_886 : ∀ (γ : St) (H : Heap) (locs : List Loc) (ls : Array Slot) (cells slots : Nat), lv_has ls 21 [] → HE κ γ H → va_S (AA κ) s.heap H locs → cells + (0) ≤ 239061 → slots + (0) ≤ 2388772 → x_LB_886 xs Ln γ = res → W p l e room_1 s m #[Value.ref b] below meth c H locs cells slots (lw_Z below #[Value.ref b] s) (F0 m 886 ls []) := by
    intro γ H locs ls cells slots hl hH hS hc1 hc2 hq
    refine lv_iconst (v := 0) hx hb dL_law_886 (by decide) ?_
    subst hq
    exact absurd (show (0 : Int32) = 1 from hv) (by decide)
  have b_806 : ∀ (γ : St) (H : Heap) (locs : List Loc) (ls : Array Slot) (cells slots : Nat), lv_has ls 21 [] → HE κ γ H → va_S (AA κ) s.heap H locs → cells + (0) ≤ 239061 → slots + (0) ≤ 2388772 → x_LB_806 xs Ln γ = res → W p l e room_1 s m #[Value.ref b] below meth c H locs cells slots (lw_Z below #[Value.ref b] s) (F0 m 806 ls []) := by
    intro γ H locs ls cells slots hl hH hS hc1 hc2 hq
    refine lv_iconst (v := 0) hx hb dL_law_806 (by decide) ?_
    subst hq
    exact absurd (show (0 : Int32) = 1 from hv) (by decide)
  have b_687 : ∀ (γ : St) (H : Heap) (locs : List Loc) (ls : Array Slot) (cells slots : Nat), lv_has ls 21 [] → HE κ γ H → va_S (AA κ) s.heap H locs → cells + (0) ≤ 239061 → slots + (0) ≤ 2388772 → x_LB_687 xs Ln γ = res → W p l e room_1 s m #[Value.ref b] below meth c H locs cells slots (lw_Z below #[Value.ref b] s) (F0 m 687 ls []) := by
    intro γ H locs ls cells slots hl hH hS hc1 hc2 hq
    refine lv_iconst (v := 0) hx hb dL_law_687 (by decide) ?_
    subst hq
    exact absurd (show (0 : Int32) = 1 from hv) (by decide)
  have b_544 : ∀ (γ : St) (H : Heap) (locs : List Loc) (ls : Array Slot) (cells slots : Nat), lv_has ls 21 [] → HE κ γ H → va_S (AA κ) s.heap H locs → cells + (0) ≤ 239061 → slots + (0) ≤ 2388772 → x_LB_544 xs Ln γ = res → W p l e room_1 s m #[Value.ref b] below meth c H locs cells slots (lw_Z below #[Value.ref b] s) (F0 m 544 ls []) := by
    intro γ H locs ls cells slots hl hH hS hc1 hc2 hq
    refine lv_iconst (v := 0) hx hb dL_law_544 (by decide) ?_
    subst hq
    exact absurd (show (0 : Int32) = 1 from hv) (by decide)
  have b_416 : ∀ (γ : St) (H : Heap) (locs : List Loc) (ls : Array Slot) (cells slots : Nat), lv_has ls 21 [] → HE κ γ H → va_S (AA κ) s.heap H locs → cells + (0) ≤ 239061 → slots + (0) ≤ 2388772 → x_LB_416 xs Ln γ = res → W p l e room_1 s m #[Value.ref b] below meth c H locs cells slots (lw_Z below #[Value.ref b] s) (F0 m 416 ls []) := by
    intro γ H locs ls cells slots hl hH hS hc1 hc2 hq
    refine lv_iconst (v := 0) hx hb dL_law_416 (by decide) ?_
    subst hq
    exact absurd (show (0 : Int32) = 1 from hv) (by decide)
  have b_91 : ∀ (k91 : Nat) (a3 : Int32) (a4 : Int32) (a5 : Int32) (a6 : Int32) (γ : St) (H : Heap) (locs : List Loc) (ls : Array Slot) (cells slots : Nat), lv_has ls 21 [(0, .ref b), (2, .ref (kA κ 7 0)), (3, .int a3), (4, .int a4), (5, .int a5), (6, .int a6)] → HE κ γ H → va_S (AA κ) s.heap H locs → cells + (2541 + 2541 * k91) ≤ 239061 → slots + (24928 + 24928 * k91) ≤ 2388772 → x_LB_91 xs Ln k91 a3 a4 a5 a6 γ = res → W p l e room_1 s m #[Value.ref b] below meth c H locs cells slots (lw_Z below #[Value.ref b] s) (F0 m 91 ls []) := by
    intro k91
    induction k91 with
    | zero =>
      intro a3 a4 a5 a6 γ H locs ls cells slots hl hH hS hc1 hc2 hq
      exact flag_bad hq hk
    | succ k91 ih_91 =>
      have b_1191 : ∀ (a3 : Int32) (a4 : Int32) (a5 : Int32) (a6 : Int32) (γ : St) (H : Heap) (locs : List Loc) (ls : Array Slot) (cells slots : Nat), lv_has ls 21 [(0, .ref b), (2, .ref (kA κ 7 0)), (3, .int a3), (4, .int a4), (5, .int a5), (6, .int a6)] → HE κ γ H → va_S (AA κ) s.heap H locs → cells + (2541 + 2541 * k91) ≤ 239061 → slots + (24928 + 24928 * k91) ≤ 2388772 → x_LB_1191 (x_LB_91 xs Ln k91) xs Ln a3 a4 a5 a6 γ = res → W p l e room_1 s m #[Value.ref b] below meth c H locs cells slots (lw_Z below #[Value.ref b] s) (F0 m 1191 ls []) := by
        intro a3 a4 a5 a6 γ H locs ls cells slots hl hH hS hc1 hc2 hq
        refine lv_iinc (v := a6 + 1) (lv' := [(6, .int (a6 + 1)), (0, .ref b), (2, .ref (kA κ 7 0)), (3, .int a3), (4, .int a4), (5, .int a5)]) hx hb dL_law_1191 hl (k := 5) rfl rfl (by decide) rfl (fun ls hl => ?_)
        refine lv_goto (tgt := 91) hx hb dL_law_1194 (by decide) ?_
        exact ih_91 a3 a4 a5 (a6 + 1) γ _ _ _ _ _ (lv_sub hl [1, 2, 3, 4, 5, 0] rfl) hH hS (by omega) (by omega) hq
      have b_1186 : ∀ (a3 : Int32) (a4 : Int32) (a5 : Int32) (a6 : Int32) (s0 : Int32) (γ : St) (H : Heap) (locs : List Loc) (ls : Array Slot) (cells slots : Nat), lv_has ls 21 [(0, .ref b), (2, .ref (kA κ 7 0)), (3, .int a3), (4, .int a4), (5, .int a5), (6, .int a6)] → HE κ γ H → va_S (AA κ) s.heap H locs → cells + (2541 + 2541 * k91) ≤ 239061 → slots + (24928 + 24928 * k91) ≤ 2388772 → x_LB_1186 (x_LB_91 xs Ln k91) xs Ln a3 a4 a5 a6 s0 γ = res → W p l e room_1 s m #[Value.ref b] below meth c H locs cells slots (lw_Z below #[Value.ref b] s) (F0 m 1186 ls [.int s0]) := by
        intro a3 a4 a5 a6 s0 γ H locs ls cells slots hl hH hS hc1 hc2 hq
        refine lv_if_ne (tgt := 1191) hx hb dL_law_1186 (by decide) (fun c405 => ?_) (fun c405 => ?_)
        · have hq := ifne hq c405
          exact b_1191 a3 a4 a5 a6 γ _ _ _ _ _ (lv_sub hl [0, 1, 2, 3, 4, 5] rfl) hH hS (by omega) (by omega) hq
        · have hq := ifpe hq c405
          refine lv_iconst (v := 0) hx hb dL_law_1189 (by decide) ?_
          subst hq
          exact absurd (show (0 : Int32) = 1 from hv) (by decide)
      have b_982 : ∀ (k982 : Nat) (a3 : Int32) (a4 : Int32) (a5 : Int32) (a6 : Int32) (a12 : Int32) (γ : St) (H : Heap) (locs : List Loc) (ls : Array Slot) (cells slots : Nat), lv_has ls 21 [(0, .ref b), (2, .ref (kA κ 7 0)), (3, .int a3), (4, .int a4), (5, .int a5), (6, .int a6), (12, .int a12)] → HE κ γ H → va_S (AA κ) s.heap H locs → cells + (3155 + 2541 * k91 + 274 * k982) ≤ 239061 → slots + (38200 + 24928 * k91 + 1644 * k982) ≤ 2388772 → x_LB_982 (x_LB_91 xs Ln k91) xs Ln k982 a3 a4 a5 a6 a12 γ = res → W p l e room_1 s m #[Value.ref b] below meth c H locs cells slots (lw_Z below #[Value.ref b] s) (F0 m 982 ls []) := by
        intro k982
        induction k982 with
        | zero =>
          intro a3 a4 a5 a6 a12 γ H locs ls cells slots hl hH hS hc1 hc2 hq
          exact flag_bad hq hk
        | succ k982 ih_982 =>
          have b_1145 : ∀ (a3 : Int32) (a4 : Int32) (a5 : Int32) (a6 : Int32) (a12 : Int32) (a13 : Int32) (a14 : Int32) (a15 : Int32) (a16 : Int32) (γ : St) (H : Heap) (locs : List Loc) (ls : Array Slot) (cells slots : Nat), lv_has ls 21 [(0, .ref b), (2, .ref (kA κ 7 0)), (3, .int a3), (4, .int a4), (5, .int a5), (6, .int a6), (12, .int a12), (13, .int a13), (14, .int a14), (15, .int a15), (16, .int a16)] → HE κ γ H → va_S (AA κ) s.heap H locs → cells + (3155 + 2541 * k91 + 274 * k982) ≤ 239061 → slots + (38200 + 24928 * k91 + 1644 * k982) ≤ 2388772 → x_LB_1145 (x_LB_91 xs Ln k91) (x_LB_982 (x_LB_91 xs Ln k91) xs Ln k982) xs Ln a3 a4 a5 a6 a12 a13 a14 a15 a16 γ = res → W p l e room_1 s m #[Value.ref b] below meth c H locs cells slots (lw_Z below #[Value.ref b] s) (F0 m 1145 ls []) := by
            intro a3 a4 a5 a6 a12 a13 a14 a15 a16 γ H locs ls cells slots hl hH hS hc1 hc2 hq
            refine lv_iload hx hb dL_law_1145 (lv_at hl 9 rfl) ?_
            refine lv_iconst (v := 2) hx hb dL_law_1147 (by decide) ?_
            refine lv_iload hx hb dL_law_1148 (lv_at hl 10 rfl) ?_
            refine lv_imul hx hb dL_law_1150 ?_
            refine lv_icmp_ne (tgt := 1161) hx hb dL_law_1151 (by decide) (fun c406 => ?_) (fun c406 => ?_)
            · have hq := ifne hq c406
              exact b_1161 γ _ _ _ _ _ (lv_sub hl [] rfl) hH hS (by omega) (by omega) hq
            · have hq := ifpe hq c406
              refine lv_iload hx hb dL_law_1154 (lv_at hl 7 rfl) ?_
              refine lv_iload hx hb dL_law_1156 (lv_at hl 8 rfl) ?_
              refine lv_icmp_eq (tgt := 1163) hx hb dL_law_1158 (by decide) (fun c407 => ?_) (fun c407 => ?_)
              · have hq := ifpe hq c407
                refine lv_iinc (v := a12 + 1) (lv' := [(12, .int (a12 + 1)), (0, .ref b), (2, .ref (kA κ 7 0)), (3, .int a3), (4, .int a4), (5, .int a5), (6, .int a6), (13, .int a13), (14, .int a14), (15, .int a15), (16, .int a16)]) hx hb dL_law_1163 hl (k := 6) rfl rfl (by decide) rfl (fun ls hl => ?_)
                refine lv_goto (tgt := 982) hx hb dL_law_1166 (by decide) ?_
                exact ih_982 a3 a4 a5 a6 (a12 + 1) γ _ _ _ _ _ (lv_sub hl [1, 2, 3, 4, 5, 6, 0] rfl) hH hS (by omega) (by omega) hq
              · have hq := ifne hq c407
                exact b_1161 γ _ _ _ _ _ (lv_sub hl [] rfl) hH hS (by omega) (by omega) hq
          have b_1004 : ∀ (k1004 : Nat) (a3 : Int32) (a4 : Int32) (a5 : Int32) (a6 : Int32) (a12 : Int32) (a13 : Int32) (a14 : Int32) (a15 : Int32) (a16 : Int32) (a17 : Int32) (γ : St) (H : Heap) (locs : List Loc) (ls : Array Slot) (cells slots : Nat), lv_has ls 21 [(0, .ref b), (2, .ref (kA κ 7 0)), (3, .int a3), (4, .int a4), (5, .int a5), (6, .int a6), (12, .int a12), (13, .int a13), (14, .int a14), (15, .int a15), (16, .int a16), (17, .int a17)] → HE κ γ H → va_S (AA κ) s.heap H locs → cells + (3156 + 2541 * k91 + 274 * k982 + 21 * k1004) ≤ 239061 → slots + (38206 + 24928 * k91 + 1644 * k982 + 126 * k1004) ≤ 2388772 → x_LB_1004 (x_LB_91 xs Ln k91) (x_LB_982 (x_LB_91 xs Ln k91) xs Ln k982) xs Ln k1004 a3 a4 a5 a6 a12 a13 a14 a15 a16 a17 γ = res → W p l e room_1 s m #[Value.ref b] below meth c H locs cells slots (lw_Z below #[Value.ref b] s) (F0 m 1004 ls []) := by
            intro k1004
            induction k1004 with
            | zero =>
              intro a3 a4 a5 a6 a12 a13 a14 a15 a16 a17 γ H locs ls cells slots hl hH hS hc1 hc2 hq
              exact flag_bad hq hk
            | succ k1004 ih_1004 =>
              have b_1031 : ∀ (k1031 : Nat) (a3 : Int32) (a4 : Int32) (a5 : Int32) (a6 : Int32) (a12 : Int32) (a13 : Int32) (a14 : Int32) (a15 : Int32) (a16 : Int32) (a17 : Int32) (a18 : Int32) (a19 : Int32) (γ : St) (H : Heap) (locs : List Loc) (ls : Array Slot) (cells slots : Nat), lv_has ls 21 [(0, .ref b), (2, .ref (kA κ 7 0)), (3, .int a3), (4, .int a4), (5, .int a5), (6, .int a6), (12, .int a12), (13, .int a13), (14, .int a14), (15, .int a15), (16, .int a16), (17, .int a17), (18, .int a18), (19, .int a19)] → HE κ γ H → va_S (AA κ) s.heap H locs → cells + (3156 + 2541 * k91 + 274 * k982 + 21 * k1004 + 4 * k1031) ≤ 239061 → slots + (38206 + 24928 * k91 + 1644 * k982 + 126 * k1004 + 24 * k1031) ≤ 2388772 → x_LB_1031 (x_LB_91 xs Ln k91) (x_LB_982 (x_LB_91 xs Ln k91) xs Ln k982) (x_LB_1004 (x_LB_91 xs Ln k91) (x_LB_982 (x_LB_91 xs Ln k91) xs Ln k982) xs Ln k1004) xs Ln k1031 a3 a4 a5 a6 a12 a13 a14 a15 a16 a17 a18 a19 γ = res → W p l e room_1 s m #[Value.ref b] below meth c H locs cells slots (lw_Z below #[Value.ref b] s) (F0 m 1031 ls []) := by
                intro k1031
                induction k1031 with
                | zero =>
                  intro a3 a4 a5 a6 a12 a13 a14 a15 a16 a17 a18 a19 γ H locs ls cells slots hl hH hS hc1 hc2 hq
                  exact flag_bad hq hk
                | succ k1031 ih_1031 =>
                  have b_1130 : ∀ (a3 : Int32) (a4 : Int32) (a5 : Int32) (a6 : Int32) (a12 : Int32) (a13 : Int32) (a15 : Int32) (a16 : Int32) (a17 : Int32) (a18 : Int32) (a19 : Int32) (s0 : Int32) (s1 : Int32) (γ : St) (H : Heap) (locs : List Loc) (ls : Array Slot) (cells slots : Nat), lv_has ls 21 [(0, .ref b), (2, .ref (kA κ 7 0)), (3, .int a3), (4, .int a4), (5, .int a5), (6, .int a6), (12, .int a12), (13, .int a13), (15, .int a15), (16, .int a16), (17, .int a17), (18, .int a18), (19, .int a19)] → HE κ γ H → va_S (AA κ) s.heap H locs → cells + (3156 + 2541 * k91 + 274 * k982 + 21 * k1004 + 4 * k1031) ≤ 239061 → slots + (38206 + 24928 * k91 + 1644 * k982 + 126 * k1004 + 24 * k1031) ≤ 2388772 → x_LB_1130 (x_LB_91 xs Ln k91) (x_LB_982 (x_LB_91 xs Ln k91) xs Ln k982) (x_LB_1004 (x_LB_91 xs Ln k91) (x_LB_982 (x_LB_91 xs Ln k91) xs Ln k982) xs Ln k1004) (x_LB_1031 (x_LB_91 xs Ln k91) (x_LB_982 (x_LB_91 xs Ln k91) xs Ln k982) (x_LB_1004 (x_LB_91 xs Ln k91) (x_LB_982 (x_LB_91 xs Ln k91) xs Ln k982) xs Ln k1004) xs Ln k1031) xs Ln a3 a4 a5 a6 a12 a13 a15 a16 a17 a18 a19 s0 s1 γ = res → W p l e room_1 s m #[Value.ref b] below meth c H locs cells slots (lw_Z below #[Value.ref b] s) (F0 m 1130 ls [.int s0, .int s1]) := by
                    intro a3 a4 a5 a6 a12 a13 a15 a16 a17 a18 a19 s0 s1 γ H locs ls cells slots hl hH hS hc1 hc2 hq
                    refine lv_iadd hx hb dL_law_1130 ?_
                    refine lv_istore (lv' := [(14, .int (s1 + s0)), (0, .ref b), (2, .ref (kA κ 7 0)), (3, .int a3), (4, .int a4), (5, .int a5), (6, .int a6), (12, .int a12), (13, .int a13), (15, .int a15), (16, .int a16), (17, .int a17), (18, .int a18), (19, .int a19)]) hx hb dL_law_1131 hl (by decide) rfl (fun ls hl => ?_)
                    refine lv_iinc (v := a19 + 1) (lv' := [(19, .int (a19 + 1)), (14, .int (s1 + s0)), (0, .ref b), (2, .ref (kA κ 7 0)), (3, .int a3), (4, .int a4), (5, .int a5), (6, .int a6), (12, .int a12), (13, .int a13), (15, .int a15), (16, .int a16), (17, .int a17), (18, .int a18)]) hx hb dL_law_1133 hl (k := 13) rfl rfl (by decide) rfl (fun ls hl => ?_)
                    refine lv_goto (tgt := 1031) hx hb dL_law_1136 (by decide) ?_
                    exact ih_1031 a3 a4 a5 a6 a12 a13 (s1 + s0) a15 a16 a17 a18 (a19 + 1) γ _ _ _ _ _ (lv_sub hl [2, 3, 4, 5, 6, 7, 8, 9, 1, 10, 11, 12, 13, 0] rfl) hH hS (by omega) (by omega) hq
                  have b_1113 : ∀ (a3 : Int32) (a4 : Int32) (a5 : Int32) (a6 : Int32) (a12 : Int32) (a14 : Int32) (a15 : Int32) (a16 : Int32) (a17 : Int32) (a18 : Int32) (a19 : Int32) (a20 : Int32) (s0 : Int32) (s1 : Int32) (γ : St) (H : Heap) (locs : List Loc) (ls : Array Slot) (cells slots : Nat), lv_has ls 21 [(0, .ref b), (2, .ref (kA κ 7 0)), (3, .int a3), (4, .int a4), (5, .int a5), (6, .int a6), (12, .int a12), (14, .int a14), (15, .int a15), (16, .int a16), (17, .int a17), (18, .int a18), (19, .int a19), (20, .int a20)] → HE κ γ H → va_S (AA κ) s.heap H locs → cells + (3156 + 2541 * k91 + 274 * k982 + 21 * k1004 + 4 * k1031) ≤ 239061 → slots + (38206 + 24928 * k91 + 1644 * k982 + 126 * k1004 + 24 * k1031) ≤ 2388772 → x_LB_1113 (x_LB_91 xs Ln k91) (x_LB_982 (x_LB_91 xs Ln k91) xs Ln k982) (x_LB_1004 (x_LB_91 xs Ln k91) (x_LB_982 (x_LB_91 xs Ln k91) xs Ln k982) xs Ln k1004) (x_LB_1031 (x_LB_91 xs Ln k91) (x_LB_982 (x_LB_91 xs Ln k91) xs Ln k982) (x_LB_1004 (x_LB_91 xs Ln k91) (x_LB_982 (x_LB_91 xs Ln k91) xs Ln k982) xs Ln k1004) xs Ln k1031) xs Ln a3 a4 a5 a6 a12 a14 a15 a16 a17 a18 a19 a20 s0 s1 γ = res → W p l e room_1 s m #[Value.ref b] below meth c H locs cells slots (lw_Z below #[Value.ref b] s) (F0 m 1113 ls [.int s0, .int s1]) := by
                    intro a3 a4 a5 a6 a12 a14 a15 a16 a17 a18 a19 a20 s0 s1 γ H locs ls cells slots hl hH hS hc1 hc2 hq
                    refine lv_iadd hx hb dL_law_1113 ?_
                    refine lv_istore (lv' := [(13, .int (s1 + s0)), (0, .ref b), (2, .ref (kA κ 7 0)), (3, .int a3), (4, .int a4), (5, .int a5), (6, .int a6), (12, .int a12), (14, .int a14), (15, .int a15), (16, .int a16), (17, .int a17), (18, .int a18), (19, .int a19), (20, .int a20)]) hx hb dL_law_1114 hl (by decide) rfl (fun ls hl => ?_)
                    refine lv_iload hx hb dL_law_1116 (lv_at hl 8 rfl) ?_
                    refine lv_iload hx hb dL_law_1118 (lv_at hl 13 rfl) ?_
                    refine lv_iconst (v := 3) hx hb dL_law_1120 (by decide) ?_
                    refine lv_icmp_ne (tgt := 1129) hx hb dL_law_1121 (by decide) (fun c408 => ?_) (fun c408 => ?_)
                    · have hq := ifne hq c408
                      refine lv_iconst (v := 0) hx hb dL_law_1129 (by decide) ?_
                      exact b_1130 a3 a4 a5 a6 a12 (s1 + s0) a15 a16 a17 a18 a19 0 a14 γ _ _ _ _ _ (lv_sub hl [1, 2, 3, 4, 5, 6, 7, 0, 9, 10, 11, 12, 13] rfl) hH hS (by omega) (by omega) hq
                    · have hq := ifpe hq c408
                      refine lv_iload hx hb dL_law_1124 (lv_at hl 14 rfl) ?_
                      refine lv_goto (tgt := 1130) hx hb dL_law_1126 (by decide) ?_
                      exact b_1130 a3 a4 a5 a6 a12 (s1 + s0) a15 a16 a17 a18 a19 a20 a14 γ _ _ _ _ _ (lv_sub hl [1, 2, 3, 4, 5, 6, 7, 0, 9, 10, 11, 12, 13] rfl) hH hS (by omega) (by omega) hq
                  have b_1096 : ∀ (a3 : Int32) (a4 : Int32) (a5 : Int32) (a6 : Int32) (a12 : Int32) (a13 : Int32) (a14 : Int32) (a15 : Int32) (a17 : Int32) (a18 : Int32) (a19 : Int32) (a20 : Int32) (s0 : Int32) (s1 : Int32) (γ : St) (H : Heap) (locs : List Loc) (ls : Array Slot) (cells slots : Nat), lv_has ls 21 [(0, .ref b), (2, .ref (kA κ 7 0)), (3, .int a3), (4, .int a4), (5, .int a5), (6, .int a6), (12, .int a12), (13, .int a13), (14, .int a14), (15, .int a15), (17, .int a17), (18, .int a18), (19, .int a19), (20, .int a20)] → HE κ γ H → va_S (AA κ) s.heap H locs → cells + (3156 + 2541 * k91 + 274 * k982 + 21 * k1004 + 4 * k1031) ≤ 239061 → slots + (38206 + 24928 * k91 + 1644 * k982 + 126 * k1004 + 24 * k1031) ≤ 2388772 → x_LB_1096 (x_LB_91 xs Ln k91) (x_LB_982 (x_LB_91 xs Ln k91) xs Ln k982) (x_LB_1004 (x_LB_91 xs Ln k91) (x_LB_982 (x_LB_91 xs Ln k91) xs Ln k982) xs Ln k1004) (x_LB_1031 (x_LB_91 xs Ln k91) (x_LB_982 (x_LB_91 xs Ln k91) xs Ln k982) (x_LB_1004 (x_LB_91 xs Ln k91) (x_LB_982 (x_LB_91 xs Ln k91) xs Ln k982) xs Ln k1004) xs Ln k1031) xs Ln a3 a4 a5 a6 a12 a13 a14 a15 a17 a18 a19 a20 s0 s1 γ = res → W p l e room_1 s m #[Value.ref b] below meth c H locs cells slots (lw_Z below #[Value.ref b] s) (F0 m 1096 ls [.int s0, .int s1]) := by
                    intro a3 a4 a5 a6 a12 a13 a14 a15 a17 a18 a19 a20 s0 s1 γ H locs ls cells slots hl hH hS hc1 hc2 hq
                    refine lv_iadd hx hb dL_law_1096 ?_
                    refine lv_istore (lv' := [(16, .int (s1 + s0)), (0, .ref b), (2, .ref (kA κ 7 0)), (3, .int a3), (4, .int a4), (5, .int a5), (6, .int a6), (12, .int a12), (13, .int a13), (14, .int a14), (15, .int a15), (17, .int a17), (18, .int a18), (19, .int a19), (20, .int a20)]) hx hb dL_law_1097 hl (by decide) rfl (fun ls hl => ?_)
                    refine lv_iload hx hb dL_law_1099 (lv_at hl 8 rfl) ?_
                    refine lv_iload hx hb dL_law_1101 (lv_at hl 13 rfl) ?_
                    refine lv_iconst (v := 2) hx hb dL_law_1103 (by decide) ?_
                    refine lv_icmp_ne (tgt := 1112) hx hb dL_law_1104 (by decide) (fun c409 => ?_) (fun c409 => ?_)
                    · have hq := ifne hq c409
                      refine lv_iconst (v := 0) hx hb dL_law_1112 (by decide) ?_
                      exact b_1113 a3 a4 a5 a6 a12 a14 a15 (s1 + s0) a17 a18 a19 a20 0 a13 γ _ _ _ _ _ (lv_sub hl [1, 2, 3, 4, 5, 6, 7, 9, 10, 0, 11, 12, 13, 14] rfl) hH hS (by omega) (by omega) hq
                    · have hq := ifpe hq c409
                      refine lv_iload hx hb dL_law_1107 (lv_at hl 14 rfl) ?_
                      refine lv_goto (tgt := 1113) hx hb dL_law_1109 (by decide) ?_
                      exact b_1113 a3 a4 a5 a6 a12 a14 a15 (s1 + s0) a17 a18 a19 a20 a20 a13 γ _ _ _ _ _ (lv_sub hl [1, 2, 3, 4, 5, 6, 7, 9, 10, 0, 11, 12, 13, 14] rfl) hH hS (by omega) (by omega) hq
                  have b_1079 : ∀ (a3 : Int32) (a4 : Int32) (a5 : Int32) (a6 : Int32) (a12 : Int32) (a13 : Int32) (a14 : Int32) (a16 : Int32) (a17 : Int32) (a18 : Int32) (a19 : Int32) (a20 : Int32) (s0 : Int32) (s1 : Int32) (γ : St) (H : Heap) (locs : List Loc) (ls : Array Slot) (cells slots : Nat), lv_has ls 21 [(0, .ref b), (2, .ref (kA κ 7 0)), (3, .int a3), (4, .int a4), (5, .int a5), (6, .int a6), (12, .int a12), (13, .int a13), (14, .int a14), (16, .int a16), (17, .int a17), (18, .int a18), (19, .int a19), (20, .int a20)] → HE κ γ H → va_S (AA κ) s.heap H locs → cells + (3156 + 2541 * k91 + 274 * k982 + 21 * k1004 + 4 * k1031) ≤ 239061 → slots + (38206 + 24928 * k91 + 1644 * k982 + 126 * k1004 + 24 * k1031) ≤ 2388772 → x_LB_1079 (x_LB_91 xs Ln k91) (x_LB_982 (x_LB_91 xs Ln k91) xs Ln k982) (x_LB_1004 (x_LB_91 xs Ln k91) (x_LB_982 (x_LB_91 xs Ln k91) xs Ln k982) xs Ln k1004) (x_LB_1031 (x_LB_91 xs Ln k91) (x_LB_982 (x_LB_91 xs Ln k91) xs Ln k982) (x_LB_1004 (x_LB_91 xs Ln k91) (x_LB_982 (x_LB_91 xs Ln k91) xs Ln k982) xs Ln k1004) xs Ln k1031) xs Ln a3 a4 a5 a6 a12 a13 a14 a16 a17 a18 a19 a20 s0 s1 γ = res → W p l e room_1 s m #[Value.ref b] below meth c H locs cells slots (lw_Z below #[Value.ref b] s) (F0 m 1079 ls [.int s0, .int s1]) := by
                    intro a3 a4 a5 a6 a12 a13 a14 a16 a17 a18 a19 a20 s0 s1 γ H locs ls cells slots hl hH hS hc1 hc2 hq
                    refine lv_iadd hx hb dL_law_1079 ?_
                    refine lv_istore (lv' := [(15, .int (s1 + s0)), (0, .ref b), (2, .ref (kA κ 7 0)), (3, .int a3), (4, .int a4), (5, .int a5), (6, .int a6), (12, .int a12), (13, .int a13), (14, .int a14), (16, .int a16), (17, .int a17), (18, .int a18), (19, .int a19), (20, .int a20)]) hx hb dL_law_1080 hl (by decide) rfl (fun ls hl => ?_)
                    refine lv_iload hx hb dL_law_1082 (lv_at hl 10 rfl) ?_
                    refine lv_iload hx hb dL_law_1084 (lv_at hl 13 rfl) ?_
                    refine lv_iconst (v := 1) hx hb dL_law_1086 (by decide) ?_
                    refine lv_icmp_ne (tgt := 1095) hx hb dL_law_1087 (by decide) (fun c410 => ?_) (fun c410 => ?_)
                    · have hq := ifne hq c410
                      refine lv_iconst (v := 0) hx hb dL_law_1095 (by decide) ?_
                      exact b_1096 a3 a4 a5 a6 a12 a13 a14 (s1 + s0) a17 a18 a19 a20 0 a16 γ _ _ _ _ _ (lv_sub hl [1, 2, 3, 4, 5, 6, 7, 8, 9, 0, 11, 12, 13, 14] rfl) hH hS (by omega) (by omega) hq
                    · have hq := ifpe hq c410
                      refine lv_iload hx hb dL_law_1090 (lv_at hl 14 rfl) ?_
                      refine lv_goto (tgt := 1096) hx hb dL_law_1092 (by decide) ?_
                      exact b_1096 a3 a4 a5 a6 a12 a13 a14 (s1 + s0) a17 a18 a19 a20 a20 a16 γ _ _ _ _ _ (lv_sub hl [1, 2, 3, 4, 5, 6, 7, 8, 9, 0, 11, 12, 13, 14] rfl) hH hS (by omega) (by omega) hq
                  intro a3 a4 a5 a6 a12 a13 a14 a15 a16 a17 a18 a19 γ H locs ls cells slots hl hH hS hc1 hc2 hq
                  refine lv_iload hx hb dL_law_1031 (lv_at hl 13 rfl) ?_
                  refine lv_iconst (v := 4) hx hb dL_law_1033 (by decide) ?_
                  refine lv_icmp_ge (tgt := 1139) hx hb dL_law_1034 (by decide) (fun c411 => ?_) (fun c411 => ?_)
                  · have hq := ifpe hq c411
                    refine lv_iinc (v := a17 + 1) (lv' := [(17, .int (a17 + 1)), (0, .ref b), (2, .ref (kA κ 7 0)), (3, .int a3), (4, .int a4), (5, .int a5), (6, .int a6), (12, .int a12), (13, .int a13), (14, .int a14), (15, .int a15), (16, .int a16), (18, .int a18), (19, .int a19)]) hx hb dL_law_1139 hl (k := 11) rfl rfl (by decide) rfl (fun ls hl => ?_)
                    refine lv_goto (tgt := 1004) hx hb dL_law_1142 (by decide) ?_
                    exact ih_1004 a3 a4 a5 a6 a12 a13 a14 a15 a16 (a17 + 1) γ _ _ _ _ _ (lv_sub hl [1, 2, 3, 4, 5, 6, 7, 8, 9, 10, 11, 0] rfl) hH hS (by omega) (by omega) hq
                  · have hq := ifne hq c411
                    refine lv_aload_n hx hb dL_law_1037 rfl (lv_at hl 1 rfl) ?_
                    refine lv_iload hx hb dL_law_1038 (lv_at hl 6 rfl) ?_
                    refine lv_iload hx hb dL_law_1040 (lv_at hl 12 rfl) ?_
                    refine lv_iload hx hb dL_law_1042 (lv_at hl 13 rfl) ?_
                    refine e_xcallV (rest := []) hC hl hH hS (co_ofPool l hfl κ γ a12 a18 a19) tw_301 tw_302 tw_303 tw_38 tw_304 hd_X7_ofPool ⟨Nat.le_of_ble_eq_true rfl, Nat.le_of_ble_eq_true rfl⟩ rfl rfl rfl rfl (Nat.le_of_ble_eq_true rfl) dL_law_1044 ⟨by show _ ≤ 600086; omega, by show _ ≤ 7301442; omega⟩ rfl (fun he412 ce q9 H locs hH hS hce hcv hcl => ?_) (fun he412 H locs hH hS => ?_)
                    · exact flag_bad (ifne hq he412) hk
                    have hq := ifpe hq he412
                    refine lv_istore (lv' := [(20, .int ((x_X7_ofPool a12 a18 a19 γ).2.1)), (0, .ref b), (2, .ref (kA κ 7 0)), (3, .int a3), (4, .int a4), (5, .int a5), (6, .int a6), (12, .int a12), (13, .int a13), (14, .int a14), (15, .int a15), (16, .int a16), (17, .int a17), (18, .int a18), (19, .int a19)]) hx hb dL_law_1047 hl (by decide) rfl (fun ls hl => ?_)
                    refine lv_iload hx hb dL_law_1049 (lv_at hl 0 rfl) ?_
                    refine lv_aload_n hx hb dL_law_1051 rfl (lv_at hl 2 rfl) ?_
                    refine lv_iload hx hb dL_law_1052 (lv_at hl 7 rfl) ?_
                    refine lv_iload hx hb dL_law_1054 (lv_at hl 13 rfl) ?_
                    refine lv_iload hx hb dL_law_1056 (lv_at hl 14 rfl) ?_
                    refine e_xcallV (rest := [.int ((x_X7_ofPool a12 a18 a19 γ).2.1)]) hC hl hH hS (co_ofPoolAnew l hfl κ (x_X7_ofPool a12 a18 a19 γ).2.2 a12 a18 a19) tw_328 tw_329 tw_330 tw_38 tw_331 hd_X7_ofPoolAnew ⟨Nat.le_of_ble_eq_true rfl, Nat.le_of_ble_eq_true rfl⟩ rfl rfl rfl rfl (Nat.le_of_ble_eq_true rfl) dL_law_1058 ⟨by show _ ≤ 600086; omega, by show _ ≤ 7301442; omega⟩ rfl (fun he413 ce q9 H locs hH hS hce hcv hcl => ?_) (fun he413 H locs hH hS => ?_)
                    · exact flag_bad (ifne hq he413) hk
                    have hq := ifpe hq he413
                    refine lv_icmp_eq (tgt := 1066) hx hb dL_law_1061 (by decide) (fun c414 => ?_) (fun c414 => ?_)
                    · have hq := ifpe hq c414
                      refine lv_iload hx hb dL_law_1066 (lv_at hl 10 rfl) ?_
                      refine lv_iload hx hb dL_law_1068 (lv_at hl 14 rfl) ?_
                      refine lv_if_ne (tgt := 1078) hx hb dL_law_1070 (by decide) (fun c415 => ?_) (fun c415 => ?_)
                      · have hq := ifne hq c415
                        refine lv_iconst (v := 0) hx hb dL_law_1078 (by decide) ?_
                        exact b_1079 a3 a4 a5 a6 a12 a13 a14 a16 a17 a18 a19 ((x_X7_ofPool a12 a18 a19 γ).2.1) 0 a15 (x_X7_ofPoolAnew a12 a18 a19 (x_X7_ofPool a12 a18 a19 γ).2.2).2.2 _ _ _ _ _ (lv_sub hl [1, 2, 3, 4, 5, 6, 7, 8, 9, 11, 12, 13, 14, 0] rfl) hH hS (by omega) (by omega) hq
                      · have hq := ifpe hq c415
                        refine lv_iload hx hb dL_law_1073 (lv_at hl 0 rfl) ?_
                        refine lv_goto (tgt := 1079) hx hb dL_law_1075 (by decide) ?_
                        exact b_1079 a3 a4 a5 a6 a12 a13 a14 a16 a17 a18 a19 ((x_X7_ofPool a12 a18 a19 γ).2.1) ((x_X7_ofPool a12 a18 a19 γ).2.1) a15 (x_X7_ofPoolAnew a12 a18 a19 (x_X7_ofPool a12 a18 a19 γ).2.2).2.2 _ _ _ _ _ (lv_sub hl [1, 2, 3, 4, 5, 6, 7, 8, 9, 11, 12, 13, 14, 0] rfl) hH hS (by omega) (by omega) hq
                    · have hq := ifne hq c414
                      refine lv_iconst (v := 0) hx hb dL_law_1064 (by decide) ?_
                      subst hq
                      exact absurd (show (0 : Int32) = 1 from hv) (by decide)
              have b_1018 : ∀ (a3 : Int32) (a4 : Int32) (a5 : Int32) (a6 : Int32) (a12 : Int32) (a13 : Int32) (a14 : Int32) (a15 : Int32) (a16 : Int32) (a17 : Int32) (s0 : Int32) (γ : St) (H : Heap) (locs : List Loc) (ls : Array Slot) (cells slots : Nat), lv_has ls 21 [(0, .ref b), (2, .ref (kA κ 7 0)), (3, .int a3), (4, .int a4), (5, .int a5), (6, .int a6), (12, .int a12), (13, .int a13), (14, .int a14), (15, .int a15), (16, .int a16), (17, .int a17)] → HE κ γ H → va_S (AA κ) s.heap H locs → cells + (3176 + 2541 * k91 + 274 * k982 + 21 * k1004) ≤ 239061 → slots + (38326 + 24928 * k91 + 1644 * k982 + 126 * k1004) ≤ 2388772 → x_LB_1018 (x_LB_91 xs Ln k91) (x_LB_982 (x_LB_91 xs Ln k91) xs Ln k982) (x_LB_1004 (x_LB_91 xs Ln k91) (x_LB_982 (x_LB_91 xs Ln k91) xs Ln k982) xs Ln k1004) xs Ln a3 a4 a5 a6 a12 a13 a14 a15 a16 a17 s0 γ = res → W p l e room_1 s m #[Value.ref b] below meth c H locs cells slots (lw_Z below #[Value.ref b] s) (F0 m 1018 ls [.int s0]) := by
                intro a3 a4 a5 a6 a12 a13 a14 a15 a16 a17 s0 γ H locs ls cells slots hl hH hS hc1 hc2 hq
                refine lv_istore (lv' := [(18, .int s0), (0, .ref b), (2, .ref (kA κ 7 0)), (3, .int a3), (4, .int a4), (5, .int a5), (6, .int a6), (12, .int a12), (13, .int a13), (14, .int a14), (15, .int a15), (16, .int a16), (17, .int a17)]) hx hb dL_law_1018 hl (by decide) rfl (fun ls hl => ?_)
                refine lv_iload hx hb dL_law_1020 (lv_at hl 0 rfl) ?_
                refine lv_if_ge (tgt := 1028) hx hb dL_law_1022 (by decide) (fun c416 => ?_) (fun c416 => ?_)
                · have hq := ifpe hq c416
                  refine lv_iconst (v := 0) hx hb dL_law_1028 (by decide) ?_
                  refine lv_istore (lv' := [(19, .int 0), (18, .int s0), (0, .ref b), (2, .ref (kA κ 7 0)), (3, .int a3), (4, .int a4), (5, .int a5), (6, .int a6), (12, .int a12), (13, .int a13), (14, .int a14), (15, .int a15), (16, .int a16), (17, .int a17)]) hx hb dL_law_1029 hl (by decide) rfl (fun ls hl => ?_)
                  exact b_1031 5 a3 a4 a5 a6 a12 a13 a14 a15 a16 a17 s0 0 γ _ _ _ _ _ (lv_sub hl [2, 3, 4, 5, 6, 7, 8, 9, 10, 11, 12, 13, 1, 0] rfl) hH hS (by omega) (by omega) hq
                · have hq := ifne hq c416
                  refine lv_goto (tgt := 1145) hx hb dL_law_1025 (by decide) ?_
                  exact b_1145 a3 a4 a5 a6 a12 a13 a14 a15 a16 γ _ _ _ _ _ (lv_sub hl [1, 2, 3, 4, 5, 6, 7, 8, 9, 10, 11] rfl) hH hS (by omega) (by omega) hq
              intro a3 a4 a5 a6 a12 a13 a14 a15 a16 a17 γ H locs ls cells slots hl hH hS hc1 hc2 hq
              refine lv_iload hx hb dL_law_1004 (lv_at hl 11 rfl) ?_
              refine lv_iload_n hx hb dL_law_1006 rfl (lv_at hl 2 rfl) ?_
              refine lv_icmp_ge (tgt := 1145) hx hb dL_law_1007 (by decide) (fun c417 => ?_) (fun c417 => ?_)
              · have hq := ifpe hq c417
                exact b_1145 a3 a4 a5 a6 a12 a13 a14 a15 a16 γ _ _ _ _ _ (lv_sub hl [0, 1, 2, 3, 4, 5, 6, 7, 8, 9, 10] rfl) hH hS (by omega) (by omega) hq
              · have hq := ifne hq c417
                refine lv_aload_n hx hb dL_law_1010 rfl (lv_at hl 1 rfl) ?_
                refine lv_iload hx hb dL_law_1011 (lv_at hl 6 rfl) ?_
                refine lv_iload hx hb dL_law_1013 (lv_at hl 11 rfl) ?_
                refine e_xcallV (rest := []) hC hl hH hS (co_rank l hfl κ γ a12 a17) tw_361 tw_362 tw_363 tw_38 tw_364 hd_X7_rank ⟨Nat.le_of_ble_eq_true rfl, Nat.le_of_ble_eq_true rfl⟩ rfl rfl rfl rfl (Nat.le_of_ble_eq_true rfl) dL_law_1015 ⟨by show _ ≤ 600086; omega, by show _ ≤ 7301442; omega⟩ rfl (fun he418 ce q9 H locs hH hS hce hcv hcl => ?_) (fun he418 H locs hH hS => ?_)
                · exact flag_bad (ifne hq he418) hk
                have hq := ifpe hq he418
                exact b_1018 a3 a4 a5 a6 a12 a13 a14 a15 a16 a17 ((x_X7_rank a12 a17 γ).2.1) (x_X7_rank a12 a17 γ).2.2 _ _ _ _ _ (lv_sub hl [0, 1, 2, 3, 4, 5, 6, 7, 8, 9, 10, 11] rfl) hH hS (by omega) (by omega) hq
          intro a3 a4 a5 a6 a12 γ H locs ls cells slots hl hH hS hc1 hc2 hq
          refine lv_iload hx hb dL_law_982 (lv_at hl 6 rfl) ?_
          refine lv_iload hx hb dL_law_984 (lv_at hl 3 rfl) ?_
          refine lv_icmp_ge (tgt := 1169) hx hb dL_law_986 (by decide) (fun c419 => ?_) (fun c419 => ?_)
          · have hq := ifpe hq c419
            refine lv_iload hx hb dL_law_1169 (lv_at hl 5 rfl) ?_
            refine lv_bipush (v := 20) hx hb dL_law_1171 (by decide) ?_
            refine lv_irem hx hb dL_law_1173 (by decide) ?_
            refine lv_if_ne (tgt := 1191) hx hb dL_law_1174 (by decide) (fun c420 => ?_) (fun c420 => ?_)
            · have hq := ifne hq c420
              exact b_1191 a3 a4 a5 a6 γ _ _ _ _ _ (lv_sub hl [0, 1, 2, 3, 4, 5] rfl) hH hS (by omega) (by omega) hq
            · have hq := ifpe hq c420
              refine lv_aload_n hx hb dL_law_1177 rfl (lv_at hl 1 rfl) ?_
              refine lv_iload_n hx hb dL_law_1178 rfl (lv_at hl 2 rfl) ?_
              refine lv_iload hx hb dL_law_1179 (lv_at hl 3 rfl) ?_
              refine lv_iload hx hb dL_law_1181 (lv_at hl 4 rfl) ?_
              by_cases he421 : (x_L_refuses a3 a4 a5 γ).1 = 0
              rotate_left
              · exact flag_bad (ifne hq he421) hk
              have hq := ifpe hq he421
              refine e_callS (rest := []) hC hl hH hS (c_L_refuses l hfl κ γ a3 a4 a5 he421) tw_841 tw_842 tw_37 tw_843 hd_L_refuses ⟨Nat.le_of_ble_eq_true rfl, Nat.le_of_ble_eq_true rfl⟩ rfl rfl rfl rfl (Nat.le_of_ble_eq_true rfl) dL_law_1183 ⟨by show _ ≤ 600086; omega, by show _ ≤ 7301442; omega⟩ rfl (fun H locs hH hS => ?_)
              exact b_1186 a3 a4 a5 a6 ((x_L_refuses a3 a4 a5 γ).2.1) (x_L_refuses a3 a4 a5 γ).2.2 _ _ _ _ _ (lv_sub hl [0, 1, 2, 3, 4, 5] rfl) hH hS (by omega) (by omega) hq
          · have hq := ifne hq c419
            refine lv_iconst (v := 0) hx hb dL_law_989 (by decide) ?_
            refine lv_istore (lv' := [(13, .int 0), (0, .ref b), (2, .ref (kA κ 7 0)), (3, .int a3), (4, .int a4), (5, .int a5), (6, .int a6), (12, .int a12)]) hx hb dL_law_990 hl (by decide) rfl (fun ls hl => ?_)
            refine lv_iconst (v := 0) hx hb dL_law_992 (by decide) ?_
            refine lv_istore (lv' := [(14, .int 0), (13, .int 0), (0, .ref b), (2, .ref (kA κ 7 0)), (3, .int a3), (4, .int a4), (5, .int a5), (6, .int a6), (12, .int a12)]) hx hb dL_law_993 hl (by decide) rfl (fun ls hl => ?_)
            refine lv_iconst (v := 0) hx hb dL_law_995 (by decide) ?_
            refine lv_istore (lv' := [(15, .int 0), (14, .int 0), (13, .int 0), (0, .ref b), (2, .ref (kA κ 7 0)), (3, .int a3), (4, .int a4), (5, .int a5), (6, .int a6), (12, .int a12)]) hx hb dL_law_996 hl (by decide) rfl (fun ls hl => ?_)
            refine lv_iconst (v := 0) hx hb dL_law_998 (by decide) ?_
            refine lv_istore (lv' := [(16, .int 0), (15, .int 0), (14, .int 0), (13, .int 0), (0, .ref b), (2, .ref (kA κ 7 0)), (3, .int a3), (4, .int a4), (5, .int a5), (6, .int a6), (12, .int a12)]) hx hb dL_law_999 hl (by decide) rfl (fun ls hl => ?_)
            refine lv_iconst (v := 0) hx hb dL_law_1001 (by decide) ?_
            refine lv_istore (lv' := [(17, .int 0), (16, .int 0), (15, .int 0), (14, .int 0), (13, .int 0), (0, .ref b), (2, .ref (kA κ 7 0)), (3, .int a3), (4, .int a4), (5, .int a5), (6, .int a6), (12, .int a12)]) hx hb dL_law_1002 hl (by decide) rfl (fun ls hl => ?_)
            exact b_1004 13 a3 a4 a5 a6 a12 0 0 0 0 0 γ _ _ _ _ _ (lv_sub hl [5, 6, 7, 8, 9, 10, 11, 4, 3, 2, 1, 0] rfl) hH hS (by omega) (by omega) hq
      have b_979 : ∀ (a3 : Int32) (a4 : Int32) (a5 : Int32) (a6 : Int32) (γ : St) (H : Heap) (locs : List Loc) (ls : Array Slot) (cells slots : Nat), lv_has ls 21 [(0, .ref b), (2, .ref (kA κ 7 0)), (3, .int a3), (4, .int a4), (5, .int a5), (6, .int a6)] → HE κ γ H → va_S (AA κ) s.heap H locs → cells + (5073 + 2541 * k91) ≤ 239061 → slots + (49708 + 24928 * k91) ≤ 2388772 → x_LB_979 (x_LB_91 xs Ln k91) xs Ln a3 a4 a5 a6 γ = res → W p l e room_1 s m #[Value.ref b] below meth c H locs cells slots (lw_Z below #[Value.ref b] s) (F0 m 979 ls []) := by
        intro a3 a4 a5 a6 γ H locs ls cells slots hl hH hS hc1 hc2 hq
        refine lv_iconst (v := 0) hx hb dL_law_979 (by decide) ?_
        refine lv_istore (lv' := [(12, .int 0), (0, .ref b), (2, .ref (kA κ 7 0)), (3, .int a3), (4, .int a4), (5, .int a5), (6, .int a6)]) hx hb dL_law_980 hl (by decide) rfl (fun ls hl => ?_)
        exact b_982 7 a3 a4 a5 a6 0 γ _ _ _ _ _ (lv_sub hl [1, 2, 3, 4, 5, 6, 0] rfl) hH hS (by omega) (by omega) hq
      have b_217 : ∀ (a4 : Int32) (a5 : Int32) (a6 : Int32) (s0 : Int32) (s1 : Int32) (γ : St) (H : Heap) (locs : List Loc) (ls : Array Slot) (cells slots : Nat), lv_has ls 21 [(0, .ref b), (2, .ref (kA κ 7 0)), (4, .int a4), (5, .int a5), (6, .int a6)] → HE κ γ H → va_S (AA κ) s.heap H locs → cells + (5073 + 2541 * k91) ≤ 239061 → slots + (49708 + 24928 * k91) ≤ 2388772 → x_LB_217 (x_LB_91 xs Ln k91) xs Ln a4 a5 a6 s0 s1 γ = res → W p l e room_1 s m #[Value.ref b] below meth c H locs cells slots (lw_Z below #[Value.ref b] s) (F0 m 217 ls [.int s0, .int s1]) := by
        intro a4 a5 a6 s0 s1 γ H locs ls cells slots hl hH hS hc1 hc2 hq
        refine lv_iadd hx hb dL_law_217 ?_
        refine lv_istore_n (lv' := [(3, .int (s1 + s0)), (0, .ref b), (2, .ref (kA κ 7 0)), (4, .int a4), (5, .int a5), (6, .int a6)]) hx hb dL_law_218 rfl hl (by decide) rfl (fun ls hl => ?_)
        refine lv_goto (tgt := 979) hx hb dL_law_219 (by decide) ?_
        exact b_979 (s1 + s0) a4 a5 a6 γ _ _ _ _ _ (lv_sub hl [1, 2, 0, 3, 4, 5] rfl) hH hS (by omega) (by omega) hq
      have b_200 : ∀ (a3 : Int32) (a4 : Int32) (a5 : Int32) (a6 : Int32) (s0 : Int32) (s1 : Int32) (γ : St) (H : Heap) (locs : List Loc) (ls : Array Slot) (cells slots : Nat), lv_has ls 21 [(0, .ref b), (2, .ref (kA κ 7 0)), (3, .int a3), (4, .int a4), (5, .int a5), (6, .int a6)] → HE κ γ H → va_S (AA κ) s.heap H locs → cells + (5073 + 2541 * k91) ≤ 239061 → slots + (49708 + 24928 * k91) ≤ 2388772 → x_LB_200 (x_LB_91 xs Ln k91) xs Ln a3 a4 a5 a6 s0 s1 γ = res → W p l e room_1 s m #[Value.ref b] below meth c H locs cells slots (lw_Z below #[Value.ref b] s) (F0 m 200 ls [.int s0, .int s1]) := by
        intro a3 a4 a5 a6 s0 s1 γ H locs ls cells slots hl hH hS hc1 hc2 hq
        refine lv_icmp_eq (tgt := 205) hx hb dL_law_200 (by decide) (fun c422 => ?_) (fun c422 => ?_)
        · have hq := ifpe hq c422
          refine lv_iload_n hx hb dL_law_205 rfl (lv_at hl 2 rfl) ?_
          refine lv_iload_n hx hb dL_law_206 rfl (lv_at hl 2 rfl) ?_
          refine lv_bipush (v := 12) hx hb dL_law_207 (by decide) ?_
          refine lv_icmp_ge (tgt := 216) hx hb dL_law_209 (by decide) (fun c423 => ?_) (fun c423 => ?_)
          · have hq := ifpe hq c423
            refine lv_iconst (v := 0) hx hb dL_law_216 (by decide) ?_
            exact b_217 a4 a5 a6 0 a3 γ _ _ _ _ _ (lv_sub hl [0, 1, 3, 4, 5] rfl) hH hS (by omega) (by omega) hq
          · have hq := ifne hq c423
            refine lv_iconst (v := 1) hx hb dL_law_212 (by decide) ?_
            refine lv_goto (tgt := 217) hx hb dL_law_213 (by decide) ?_
            exact b_217 a4 a5 a6 1 a3 γ _ _ _ _ _ (lv_sub hl [0, 1, 3, 4, 5] rfl) hH hS (by omega) (by omega) hq
        · have hq := ifne hq c422
          refine lv_iconst (v := 0) hx hb dL_law_203 (by decide) ?_
          subst hq
          exact absurd (show (0 : Int32) = 1 from hv) (by decide)
      have b_188 : ∀ (a3 : Int32) (a4 : Int32) (a5 : Int32) (a6 : Int32) (s0 : Int32) (γ : St) (H : Heap) (locs : List Loc) (ls : Array Slot) (cells slots : Nat), lv_has ls 21 [(0, .ref b), (2, .ref (kA κ 7 0)), (3, .int a3), (4, .int a4), (5, .int a5), (6, .int a6)] → HE κ γ H → va_S (AA κ) s.heap H locs → cells + (5073 + 2541 * k91) ≤ 239061 → slots + (49708 + 24928 * k91) ≤ 2388772 → x_LB_188 (x_LB_91 xs Ln k91) xs Ln a3 a4 a5 a6 s0 γ = res → W p l e room_1 s m #[Value.ref b] below meth c H locs cells slots (lw_Z below #[Value.ref b] s) (F0 m 188 ls [.int s0]) := by
        intro a3 a4 a5 a6 s0 γ H locs ls cells slots hl hH hS hc1 hc2 hq
        refine lv_iload_n hx hb dL_law_188 rfl (lv_at hl 2 rfl) ?_
        refine lv_bipush (v := 12) hx hb dL_law_189 (by decide) ?_
        refine lv_icmp_ge (tgt := 198) hx hb dL_law_191 (by decide) (fun c424 => ?_) (fun c424 => ?_)
        · have hq := ifpe hq c424
          refine lv_bipush (v := (-73)) hx hb dL_law_198 (by decide) ?_
          exact b_200 a3 a4 a5 a6 ((-73)) s0 γ _ _ _ _ _ (lv_sub hl [0, 1, 2, 3, 4, 5] rfl) hH hS (by omega) (by omega) hq
        · have hq := ifne hq c424
          refine lv_iload_n hx hb dL_law_194 rfl (lv_at hl 2 rfl) ?_
          refine lv_goto (tgt := 200) hx hb dL_law_195 (by decide) ?_
          exact b_200 a3 a4 a5 a6 a3 s0 γ _ _ _ _ _ (lv_sub hl [0, 1, 2, 3, 4, 5] rfl) hH hS (by omega) (by omega) hq
      have b_178 : ∀ (a3 : Int32) (a4 : Int32) (a5 : Int32) (a6 : Int32) (γ : St) (H : Heap) (locs : List Loc) (ls : Array Slot) (cells slots : Nat), lv_has ls 21 [(0, .ref b), (2, .ref (kA κ 7 0)), (3, .int a3), (4, .int a4), (5, .int a5), (6, .int a6)] → HE κ γ H → va_S (AA κ) s.heap H locs → cells + (5076 + 2541 * k91) ≤ 239061 → slots + (49773 + 24928 * k91) ≤ 2388772 → x_LB_178 (x_LB_91 xs Ln k91) xs Ln a3 a4 a5 a6 γ = res → W p l e room_1 s m #[Value.ref b] below meth c H locs cells slots (lw_Z below #[Value.ref b] s) (F0 m 178 ls []) := by
        intro a3 a4 a5 a6 γ H locs ls cells slots hl hH hS hc1 hc2 hq
        refine lv_aload_n hx hb dL_law_178 rfl (lv_at hl 1 rfl) ?_
        refine lv_iconst (v := 0) hx hb dL_law_179 (by decide) ?_
        refine lv_iconst (v := 0) hx hb dL_law_180 (by decide) ?_
        refine lv_iconst (v := 0) hx hb dL_law_181 (by decide) ?_
        refine lv_iconst (v := 0) hx hb dL_law_182 (by decide) ?_
        refine lv_iconst (v := 0) hx hb dL_law_183 (by decide) ?_
        refine lv_iconst (v := 0) hx hb dL_law_184 (by decide) ?_
        refine e_callW (rest := []) hC hl hH hS (c_L_call l hfl κ γ 0 0 0 0 0 0) tw_430 tw_431 tw_37 tw_432 hd_L_call ⟨Nat.le_of_ble_eq_true rfl, Nat.le_of_ble_eq_true rfl⟩ rfl rfl rfl rfl (Nat.le_of_ble_eq_true rfl) dL_law_185 ⟨by show _ ≤ 600086; omega, by show _ ≤ 7301442; omega⟩ rfl (fun H locs hH hS => ?_)
        exact b_188 a3 a4 a5 a6 ((x_L_call 0 0 0 0 0 0 γ).1) (x_L_call 0 0 0 0 0 0 γ).2 _ _ _ _ _ (lv_sub hl [0, 1, 2, 3, 4, 5] rfl) hH hS (by omega) (by omega) hq
      have b_974 : ∀ (a3 : Int32) (a4 : Int32) (a5 : Int32) (a6 : Int32) (s0 : Int32) (γ : St) (H : Heap) (locs : List Loc) (ls : Array Slot) (cells slots : Nat), lv_has ls 21 [(0, .ref b), (2, .ref (kA κ 7 0)), (3, .int a3), (4, .int a4), (5, .int a5), (6, .int a6)] → HE κ γ H → va_S (AA κ) s.heap H locs → cells + (5073 + 2541 * k91) ≤ 239061 → slots + (49708 + 24928 * k91) ≤ 2388772 → x_LB_974 (x_LB_91 xs Ln k91) xs Ln a3 a4 a5 a6 s0 γ = res → W p l e room_1 s m #[Value.ref b] below meth c H locs cells slots (lw_Z below #[Value.ref b] s) (F0 m 974 ls [.int s0]) := by
        intro a3 a4 a5 a6 s0 γ H locs ls cells slots hl hH hS hc1 hc2 hq
        refine lv_if_lt (tgt := 979) hx hb dL_law_974 (by decide) (fun c425 => ?_) (fun c425 => ?_)
        · have hq := ifpe hq c425
          exact b_979 a3 a4 a5 a6 γ _ _ _ _ _ (lv_sub hl [0, 1, 2, 3, 4, 5] rfl) hH hS (by omega) (by omega) hq
        · have hq := ifne hq c425
          exact b_977 γ _ _ _ _ _ (lv_sub hl [] rfl) hH hS (by omega) (by omega) hq
      have b_966 : ∀ (a3 : Int32) (a4 : Int32) (a5 : Int32) (a6 : Int32) (a12 : Int32) (a13 : Int32) (γ : St) (H : Heap) (locs : List Loc) (ls : Array Slot) (cells slots : Nat), lv_has ls 21 [(0, .ref b), (2, .ref (kA κ 7 0)), (3, .int a3), (4, .int a4), (5, .int a5), (6, .int a6), (12, .int a12), (13, .int a13)] → HE κ γ H → va_S (AA κ) s.heap H locs → cells + (5074 + 2541 * k91) ≤ 239061 → slots + (49714 + 24928 * k91) ≤ 2388772 → x_LB_966 (x_LB_91 xs Ln k91) xs Ln a3 a4 a5 a6 a12 a13 γ = res → W p l e room_1 s m #[Value.ref b] below meth c H locs cells slots (lw_Z below #[Value.ref b] s) (F0 m 966 ls []) := by
        intro a3 a4 a5 a6 a12 a13 γ H locs ls cells slots hl hH hS hc1 hc2 hq
        refine lv_aload_n hx hb dL_law_966 rfl (lv_at hl 1 rfl) ?_
        refine lv_iload hx hb dL_law_967 (lv_at hl 6 rfl) ?_
        refine lv_iload hx hb dL_law_969 (lv_at hl 7 rfl) ?_
        refine e_xcallV (rest := []) hC hl hH hS (co_rank l hfl κ γ a12 a13) tw_361 tw_362 tw_363 tw_38 tw_364 hd_X7_rank ⟨Nat.le_of_ble_eq_true rfl, Nat.le_of_ble_eq_true rfl⟩ rfl rfl rfl rfl (Nat.le_of_ble_eq_true rfl) dL_law_971 ⟨by show _ ≤ 600086; omega, by show _ ≤ 7301442; omega⟩ rfl (fun he426 ce q9 H locs hH hS hce hcv hcl => ?_) (fun he426 H locs hH hS => ?_)
        · exact flag_bad (ifne hq he426) hk
        have hq := ifpe hq he426
        exact b_974 a3 a4 a5 a6 ((x_X7_rank a12 a13 γ).2.1) (x_X7_rank a12 a13 γ).2.2 _ _ _ _ _ (lv_sub hl [0, 1, 2, 3, 4, 5] rfl) hH hS (by omega) (by omega) hq
      have b_957 : ∀ (a3 : Int32) (a4 : Int32) (a5 : Int32) (a6 : Int32) (a12 : Int32) (a13 : Int32) (s0 : Int32) (γ : St) (H : Heap) (locs : List Loc) (ls : Array Slot) (cells slots : Nat), lv_has ls 21 [(0, .ref b), (2, .ref (kA κ 7 0)), (3, .int a3), (4, .int a4), (5, .int a5), (6, .int a6), (12, .int a12), (13, .int a13)] → HE κ γ H → va_S (AA κ) s.heap H locs → cells + (5074 + 2541 * k91) ≤ 239061 → slots + (49714 + 24928 * k91) ≤ 2388772 → x_LB_957 (x_LB_91 xs Ln k91) xs Ln a3 a4 a5 a6 a12 a13 s0 γ = res → W p l e room_1 s m #[Value.ref b] below meth c H locs cells slots (lw_Z below #[Value.ref b] s) (F0 m 957 ls [.int s0]) := by
        intro a3 a4 a5 a6 a12 a13 s0 γ H locs ls cells slots hl hH hS hc1 hc2 hq
        refine lv_if_ge (tgt := 966) hx hb dL_law_957 (by decide) (fun c427 => ?_) (fun c427 => ?_)
        · have hq := ifpe hq c427
          exact b_966 a3 a4 a5 a6 a12 a13 γ _ _ _ _ _ (lv_sub hl [0, 1, 2, 3, 4, 5, 6, 7] rfl) hH hS (by omega) (by omega) hq
        · have hq := ifne hq c427
          refine lv_iload hx hb dL_law_960 (lv_at hl 7 rfl) ?_
          refine lv_iconst (v := 2) hx hb dL_law_962 (by decide) ?_
          refine lv_icmp_gt (tgt := 977) hx hb dL_law_963 (by decide) (fun c428 => ?_) (fun c428 => ?_)
          · have hq := ifpe hq c428
            exact b_977 γ _ _ _ _ _ (lv_sub hl [] rfl) hH hS (by omega) (by omega) hq
          · have hq := ifne hq c428
            exact b_966 a3 a4 a5 a6 a12 a13 γ _ _ _ _ _ (lv_sub hl [0, 1, 2, 3, 4, 5, 6, 7] rfl) hH hS (by omega) (by omega) hq
      have b_944 : ∀ (a3 : Int32) (a4 : Int32) (a5 : Int32) (a6 : Int32) (a12 : Int32) (a13 : Int32) (s0 : Int32) (s1 : Int32) (γ : St) (H : Heap) (locs : List Loc) (ls : Array Slot) (cells slots : Nat), lv_has ls 21 [(0, .ref b), (2, .ref (kA κ 7 0)), (3, .int a3), (4, .int a4), (5, .int a5), (6, .int a6), (12, .int a12), (13, .int a13)] → HE κ γ H → va_S (AA κ) s.heap H locs → cells + (5075 + 2541 * k91) ≤ 239061 → slots + (49720 + 24928 * k91) ≤ 2388772 → x_LB_944 (x_LB_91 xs Ln k91) xs Ln a3 a4 a5 a6 a12 a13 s0 s1 γ = res → W p l e room_1 s m #[Value.ref b] below meth c H locs cells slots (lw_Z below #[Value.ref b] s) (F0 m 944 ls [.int s0, .int s1]) := by
        intro a3 a4 a5 a6 a12 a13 s0 s1 γ H locs ls cells slots hl hH hS hc1 hc2 hq
        refine lv_icmp_ne (tgt := 977) hx hb dL_law_944 (by decide) (fun c429 => ?_) (fun c429 => ?_)
        · have hq := ifne hq c429
          exact b_977 γ _ _ _ _ _ (lv_sub hl [] rfl) hH hS (by omega) (by omega) hq
        · have hq := ifpe hq c429
          refine lv_aload_n hx hb dL_law_947 rfl (lv_at hl 1 rfl) ?_
          refine lv_iload hx hb dL_law_948 (lv_at hl 6 rfl) ?_
          refine lv_iload hx hb dL_law_950 (lv_at hl 7 rfl) ?_
          refine lv_iconst (v := 2) hx hb dL_law_952 (by decide) ?_
          refine lv_idiv hx hb dL_law_953 (by decide) ?_
          refine e_xcallV (rest := []) hC hl hH hS (co_rank l hfl κ γ a12 (a13 / 2)) tw_361 tw_362 tw_363 tw_38 tw_364 hd_X7_rank ⟨Nat.le_of_ble_eq_true rfl, Nat.le_of_ble_eq_true rfl⟩ rfl rfl rfl rfl (Nat.le_of_ble_eq_true rfl) dL_law_954 ⟨by show _ ≤ 600086; omega, by show _ ≤ 7301442; omega⟩ rfl (fun he430 ce q9 H locs hH hS hce hcv hcl => ?_) (fun he430 H locs hH hS => ?_)
          · exact flag_bad (ifne hq he430) hk
          have hq := ifpe hq he430
          exact b_957 a3 a4 a5 a6 a12 a13 ((x_X7_rank a12 (a13 / 2) γ).2.1) (x_X7_rank a12 (a13 / 2) γ).2.2 _ _ _ _ _ (lv_sub hl [0, 1, 2, 3, 4, 5, 6, 7] rfl) hH hS (by omega) (by omega) hq
      have b_915 : ∀ (a3 : Int32) (a4 : Int32) (a5 : Int32) (a6 : Int32) (a12 : Int32) (s0 : Int32) (γ : St) (H : Heap) (locs : List Loc) (ls : Array Slot) (cells slots : Nat), lv_has ls 21 [(0, .ref b), (2, .ref (kA κ 7 0)), (3, .int a3), (4, .int a4), (5, .int a5), (6, .int a6), (12, .int a12)] → HE κ γ H → va_S (AA κ) s.heap H locs → cells + (5078 + 2541 * k91) ≤ 239061 → slots + (49738 + 24928 * k91) ≤ 2388772 → x_LB_915 (x_LB_91 xs Ln k91) xs Ln a3 a4 a5 a6 a12 s0 γ = res → W p l e room_1 s m #[Value.ref b] below meth c H locs cells slots (lw_Z below #[Value.ref b] s) (F0 m 915 ls [.int s0]) := by
        intro a3 a4 a5 a6 a12 s0 γ H locs ls cells slots hl hH hS hc1 hc2 hq
        refine lv_istore (lv' := [(13, .int s0), (0, .ref b), (2, .ref (kA κ 7 0)), (3, .int a3), (4, .int a4), (5, .int a5), (6, .int a6), (12, .int a12)]) hx hb dL_law_915 hl (by decide) rfl (fun ls hl => ?_)
        refine lv_iload hx hb dL_law_917 (lv_at hl 0 rfl) ?_
        refine lv_bipush (v := (-73)) hx hb dL_law_919 (by decide) ?_
        refine lv_icmp_eq (tgt := 979) hx hb dL_law_921 (by decide) (fun c431 => ?_) (fun c431 => ?_)
        · have hq := ifpe hq c431
          exact b_979 a3 a4 a5 a6 γ _ _ _ _ _ (lv_sub hl [1, 2, 3, 4, 5, 6] rfl) hH hS (by omega) (by omega) hq
        · have hq := ifne hq c431
          refine lv_iload hx hb dL_law_924 (lv_at hl 0 rfl) ?_
          refine lv_iconst (v := 2) hx hb dL_law_926 (by decide) ?_
          refine lv_icmp_lt (tgt := 977) hx hb dL_law_927 (by decide) (fun c432 => ?_) (fun c432 => ?_)
          · have hq := ifpe hq c432
            exact b_977 γ _ _ _ _ _ (lv_sub hl [] rfl) hH hS (by omega) (by omega) hq
          · have hq := ifne hq c432
            refine lv_aload_n hx hb dL_law_930 rfl (lv_at hl 2 rfl) ?_
            refine lv_iconst (v := 0) hx hb dL_law_931 (by decide) ?_
            refine lv_iconst (v := 0) hx hb dL_law_932 (by decide) ?_
            refine lv_iconst (v := 0) hx hb dL_law_933 (by decide) ?_
            refine e_xcallV (rest := []) hC hl hH hS (co_meets l hfl κ γ 0 0 0) tw_396 tw_397 tw_398 tw_38 tw_399 hd_X7_meets ⟨Nat.le_of_ble_eq_true rfl, Nat.le_of_ble_eq_true rfl⟩ rfl rfl rfl rfl (Nat.le_of_ble_eq_true rfl) dL_law_934 ⟨by show _ ≤ 600086; omega, by show _ ≤ 7301442; omega⟩ rfl (fun he433 ce q9 H locs hH hS hce hcv hcl => ?_) (fun he433 H locs hH hS => ?_)
            · exact flag_bad (ifne hq he433) hk
            have hq := ifpe hq he433
            refine lv_aload_n hx hb dL_law_937 rfl (lv_at hl 2 rfl) ?_
            refine lv_iload hx hb dL_law_938 (lv_at hl 7 rfl) ?_
            refine lv_iconst (v := 0) hx hb dL_law_940 (by decide) ?_
            refine e_xcallV (rest := [.int ((x_X7_meets 0 0 0 γ).2.1)]) hC hl hH hS (co_rank l hfl κ (x_X7_meets 0 0 0 γ).2.2 a12 0) tw_361 tw_362 tw_363 tw_38 tw_364 hd_X7_rank ⟨Nat.le_of_ble_eq_true rfl, Nat.le_of_ble_eq_true rfl⟩ rfl rfl rfl rfl (Nat.le_of_ble_eq_true rfl) dL_law_941 ⟨by show _ ≤ 600086; omega, by show _ ≤ 7301442; omega⟩ rfl (fun he434 ce q9 H locs hH hS hce hcv hcl => ?_) (fun he434 H locs hH hS => ?_)
            · exact flag_bad (ifne hq he434) hk
            have hq := ifpe hq he434
            exact b_944 a3 a4 a5 a6 a12 s0 ((x_X7_rank a12 0 (x_X7_meets 0 0 0 γ).2.2).2.1) ((x_X7_meets 0 0 0 γ).2.1) (x_X7_rank a12 0 (x_X7_meets 0 0 0 γ).2.2).2.2 _ _ _ _ _ (lv_sub hl [1, 2, 3, 4, 5, 6, 7, 0] rfl) hH hS (by omega) (by omega) hq
      have b_888 : ∀ (a3 : Int32) (a4 : Int32) (a5 : Int32) (a6 : Int32) (γ : St) (H : Heap) (locs : List Loc) (ls : Array Slot) (cells slots : Nat), lv_has ls 21 [(0, .ref b), (2, .ref (kA κ 7 0)), (3, .int a3), (4, .int a4), (5, .int a5), (6, .int a6)] → HE κ γ H → va_S (AA κ) s.heap H locs → cells + (5073 + 2541 * k91) ≤ 239061 → slots + (49708 + 24928 * k91) ≤ 2388772 → x_LB_888 (x_LB_91 xs Ln k91) xs Ln a3 a4 a5 a6 γ = res → W p l e room_1 s m #[Value.ref b] below meth c H locs cells slots (lw_Z below #[Value.ref b] s) (F0 m 888 ls []) := by
        intro a3 a4 a5 a6 γ H locs ls cells slots hl hH hS hc1 hc2 hq
        refine lv_goto (tgt := 979) hx hb dL_law_888 (by decide) ?_
        exact b_979 a3 a4 a5 a6 γ _ _ _ _ _ (lv_sub hl [0, 1, 2, 3, 4, 5] rfl) hH hS (by omega) (by omega) hq
      have b_881 : ∀ (a3 : Int32) (a4 : Int32) (a5 : Int32) (a6 : Int32) (s0 : Int32) (γ : St) (H : Heap) (locs : List Loc) (ls : Array Slot) (cells slots : Nat), lv_has ls 21 [(0, .ref b), (2, .ref (kA κ 7 0)), (3, .int a3), (4, .int a4), (5, .int a5), (6, .int a6)] → HE κ γ H → va_S (AA κ) s.heap H locs → cells + (5073 + 2541 * k91) ≤ 239061 → slots + (49708 + 24928 * k91) ≤ 2388772 → x_LB_881 (x_LB_91 xs Ln k91) xs Ln a3 a4 a5 a6 s0 γ = res → W p l e room_1 s m #[Value.ref b] below meth c H locs cells slots (lw_Z below #[Value.ref b] s) (F0 m 881 ls [.int s0]) := by
        intro a3 a4 a5 a6 s0 γ H locs ls cells slots hl hH hS hc1 hc2 hq
        refine lv_bipush (v := (-73)) hx hb dL_law_881 (by decide) ?_
        refine lv_icmp_eq (tgt := 888) hx hb dL_law_883 (by decide) (fun c435 => ?_) (fun c435 => ?_)
        · have hq := ifpe hq c435
          exact b_888 a3 a4 a5 a6 γ _ _ _ _ _ (lv_sub hl [0, 1, 2, 3, 4, 5] rfl) hH hS (by omega) (by omega) hq
        · have hq := ifne hq c435
          exact b_886 γ _ _ _ _ _ (lv_sub hl [] rfl) hH hS (by omega) (by omega) hq
      have b_845 : ∀ (a3 : Int32) (a4 : Int32) (a5 : Int32) (a6 : Int32) (a10 : Int32) (a12 : Int32) (s0 : Int32) (γ : St) (H : Heap) (locs : List Loc) (ls : Array Slot) (cells slots : Nat), lv_has ls 21 [(0, .ref b), (2, .ref (kA κ 7 0)), (3, .int a3), (4, .int a4), (5, .int a5), (6, .int a6), (10, .int a10), (12, .int a12)] → HE κ γ H → va_S (AA κ) s.heap H locs → cells + (5078 + 2541 * k91) ≤ 239061 → slots + (49785 + 24928 * k91) ≤ 2388772 → x_LB_845 (x_LB_91 xs Ln k91) xs Ln a3 a4 a5 a6 a10 a12 s0 γ = res → W p l e room_1 s m #[Value.ref b] below meth c H locs cells slots (lw_Z below #[Value.ref b] s) (F0 m 845 ls [.int s0]) := by
        intro a3 a4 a5 a6 a10 a12 s0 γ H locs ls cells slots hl hH hS hc1 hc2 hq
        refine lv_istore (lv' := [(13, .int s0), (0, .ref b), (2, .ref (kA κ 7 0)), (3, .int a3), (4, .int a4), (5, .int a5), (6, .int a6), (10, .int a10), (12, .int a12)]) hx hb dL_law_845 hl (by decide) rfl (fun ls hl => ?_)
        refine lv_iload hx hb dL_law_847 (lv_at hl 0 rfl) ?_
        refine lv_if_lt (tgt := 888) hx hb dL_law_849 (by decide) (fun c436 => ?_) (fun c436 => ?_)
        · have hq := ifpe hq c436
          exact b_888 a3 a4 a5 a6 γ _ _ _ _ _ (lv_sub hl [1, 2, 3, 4, 5, 6] rfl) hH hS (by omega) (by omega) hq
        · have hq := ifne hq c436
          refine lv_aload_n hx hb dL_law_852 rfl (lv_at hl 2 rfl) ?_
          refine lv_iload hx hb dL_law_853 (lv_at hl 8 rfl) ?_
          refine lv_iload hx hb dL_law_855 (lv_at hl 7 rfl) ?_
          refine lv_iload_n hx hb dL_law_857 rfl (lv_at hl 3 rfl) ?_
          by_cases hn437 : a3 = 0
          · exact flag_bad (ifpe hq hn437) hk
          have hq := ifne hq hn437
          refine lv_irem hx hb dL_law_858 hn437 ?_
          refine lv_iconst (v := 0) hx hb dL_law_859 (by decide) ?_
          refine e_xcallV (rest := []) hC hl hH hS (co_ofPool l hfl κ γ a12 (a10 - a10 / a3 * a3) 0) tw_301 tw_302 tw_303 tw_38 tw_304 hd_X7_ofPool ⟨Nat.le_of_ble_eq_true rfl, Nat.le_of_ble_eq_true rfl⟩ rfl rfl rfl rfl (Nat.le_of_ble_eq_true rfl) dL_law_860 ⟨by show _ ≤ 600086; omega, by show _ ≤ 7301442; omega⟩ rfl (fun he438 ce q9 H locs hH hS hce hcv hcl => ?_) (fun he438 H locs hH hS => ?_)
          · exact flag_bad (ifne hq he438) hk
          have hq := ifpe hq he438
          refine lv_if_ne (tgt := 886) hx hb dL_law_863 (by decide) (fun c439 => ?_) (fun c439 => ?_)
          · have hq := ifne hq c439
            exact b_886 (x_X7_ofPool a12 (a10 - a10 / a3 * a3) 0 γ).2.2 _ _ _ _ _ (lv_sub hl [] rfl) hH hS (by omega) (by omega) hq
          · have hq := ifpe hq c439
            refine lv_aload_n hx hb dL_law_866 rfl (lv_at hl 2 rfl) ?_
            refine lv_bipush (v := 10) hx hb dL_law_867 (by decide) ?_
            refine lv_iload hx hb dL_law_869 (lv_at hl 8 rfl) ?_
            refine lv_iload hx hb dL_law_871 (lv_at hl 7 rfl) ?_
            refine lv_iload_n hx hb dL_law_873 rfl (lv_at hl 3 rfl) ?_
            by_cases hn440 : a3 = 0
            · exact flag_bad (ifpe hq hn440) hk
            have hq := ifne hq hn440
            refine lv_irem hx hb dL_law_874 hn440 ?_
            refine lv_iconst (v := 0) hx hb dL_law_875 (by decide) ?_
            refine lv_iconst (v := 0) hx hb dL_law_876 (by decide) ?_
            refine lv_iconst (v := 0) hx hb dL_law_877 (by decide) ?_
            refine e_callW (rest := []) hC hl hH hS (c_L_call l hfl κ (x_X7_ofPool a12 (a10 - a10 / a3 * a3) 0 γ).2.2 10 a12 (a10 - a10 / a3 * a3) 0 0 0) tw_430 tw_431 tw_37 tw_432 hd_L_call ⟨Nat.le_of_ble_eq_true rfl, Nat.le_of_ble_eq_true rfl⟩ rfl rfl rfl rfl (Nat.le_of_ble_eq_true rfl) dL_law_878 ⟨by show _ ≤ 600086; omega, by show _ ≤ 7301442; omega⟩ rfl (fun H locs hH hS => ?_)
            exact b_881 a3 a4 a5 a6 ((x_L_call 10 a12 (a10 - a10 / a3 * a3) 0 0 0 (x_X7_ofPool a12 (a10 - a10 / a3 * a3) 0 γ).2.2).1) (x_L_call 10 a12 (a10 - a10 / a3 * a3) 0 0 0 (x_X7_ofPool a12 (a10 - a10 / a3 * a3) 0 γ).2.2).2 _ _ _ _ _ (lv_sub hl [1, 2, 3, 4, 5, 6] rfl) hH hS (by omega) (by omega) hq
      have b_808 : ∀ (a3 : Int32) (a4 : Int32) (a5 : Int32) (a6 : Int32) (γ : St) (H : Heap) (locs : List Loc) (ls : Array Slot) (cells slots : Nat), lv_has ls 21 [(0, .ref b), (2, .ref (kA κ 7 0)), (3, .int a3), (4, .int a4), (5, .int a5), (6, .int a6)] → HE κ γ H → va_S (AA κ) s.heap H locs → cells + (5073 + 2541 * k91) ≤ 239061 → slots + (49708 + 24928 * k91) ≤ 2388772 → x_LB_808 (x_LB_91 xs Ln k91) xs Ln a3 a4 a5 a6 γ = res → W p l e room_1 s m #[Value.ref b] below meth c H locs cells slots (lw_Z below #[Value.ref b] s) (F0 m 808 ls []) := by
        intro a3 a4 a5 a6 γ H locs ls cells slots hl hH hS hc1 hc2 hq
        refine lv_goto (tgt := 979) hx hb dL_law_808 (by decide) ?_
        exact b_979 a3 a4 a5 a6 γ _ _ _ _ _ (lv_sub hl [0, 1, 2, 3, 4, 5] rfl) hH hS (by omega) (by omega) hq
      have b_777 : ∀ (a3 : Int32) (a4 : Int32) (a5 : Int32) (a6 : Int32) (a11 : Int32) (s0 : Int32) (γ : St) (H : Heap) (locs : List Loc) (ls : Array Slot) (cells slots : Nat), lv_has ls 21 [(0, .ref b), (2, .ref (kA κ 7 0)), (3, .int a3), (4, .int a4), (5, .int a5), (6, .int a6), (11, .int a11)] → HE κ γ H → va_S (AA κ) s.heap H locs → cells + (5073 + 2541 * k91) ≤ 239061 → slots + (49708 + 24928 * k91) ≤ 2388772 → x_LB_777 (x_LB_91 xs Ln k91) xs Ln a3 a4 a5 a6 a11 s0 γ = res → W p l e room_1 s m #[Value.ref b] below meth c H locs cells slots (lw_Z below #[Value.ref b] s) (F0 m 777 ls [.int s0]) := by
        intro a3 a4 a5 a6 a11 s0 γ H locs ls cells slots hl hH hS hc1 hc2 hq
        refine lv_istore (lv' := [(12, .int s0), (0, .ref b), (2, .ref (kA κ 7 0)), (3, .int a3), (4, .int a4), (5, .int a5), (6, .int a6), (11, .int a11)]) hx hb dL_law_777 hl (by decide) rfl (fun ls hl => ?_)
        refine lv_iload hx hb dL_law_779 (lv_at hl 0 rfl) ?_
        refine lv_bipush (v := (-72)) hx hb dL_law_781 (by decide) ?_
        refine lv_icmp_eq (tgt := 806) hx hb dL_law_783 (by decide) (fun c441 => ?_) (fun c441 => ?_)
        · have hq := ifpe hq c441
          exact b_806 γ _ _ _ _ _ (lv_sub hl [] rfl) hH hS (by omega) (by omega) hq
        · have hq := ifne hq c441
          refine lv_iload hx hb dL_law_786 (lv_at hl 0 rfl) ?_
          refine lv_sipush (v := 239) hx hb dL_law_788 (by decide) ?_
          refine lv_icmp_gt (tgt := 806) hx hb dL_law_791 (by decide) (fun c442 => ?_) (fun c442 => ?_)
          · have hq := ifpe hq c442
            exact b_806 γ _ _ _ _ _ (lv_sub hl [] rfl) hH hS (by omega) (by omega) hq
          · have hq := ifne hq c442
            refine lv_iload hx hb dL_law_794 (lv_at hl 0 rfl) ?_
            refine lv_bipush (v := (-73)) hx hb dL_law_796 (by decide) ?_
            refine lv_icmp_ne (tgt := 808) hx hb dL_law_798 (by decide) (fun c443 => ?_) (fun c443 => ?_)
            · have hq := ifne hq c443
              exact b_808 a3 a4 a5 a6 γ _ _ _ _ _ (lv_sub hl [1, 2, 3, 4, 5, 6] rfl) hH hS (by omega) (by omega) hq
            · have hq := ifpe hq c443
              refine lv_iload hx hb dL_law_801 (lv_at hl 7 rfl) ?_
              refine lv_if_eq (tgt := 808) hx hb dL_law_803 (by decide) (fun c444 => ?_) (fun c444 => ?_)
              · have hq := ifpe hq c444
                exact b_808 a3 a4 a5 a6 γ _ _ _ _ _ (lv_sub hl [1, 2, 3, 4, 5, 6] rfl) hH hS (by omega) (by omega) hq
              · have hq := ifne hq c444
                exact b_806 γ _ _ _ _ _ (lv_sub hl [] rfl) hH hS (by omega) (by omega) hq
      have b_773 : ∀ (a3 : Int32) (a4 : Int32) (a5 : Int32) (a6 : Int32) (a11 : Int32) (s0 : Int32) (γ : St) (H : Heap) (locs : List Loc) (ls : Array Slot) (cells slots : Nat), lv_has ls 21 [(0, .ref b), (2, .ref (kA κ 7 0)), (3, .int a3), (4, .int a4), (5, .int a5), (6, .int a6), (11, .int a11)] → HE κ γ H → va_S (AA κ) s.heap H locs → cells + (5073 + 2541 * k91) ≤ 239061 → slots + (49708 + 24928 * k91) ≤ 2388772 → x_LB_773 (x_LB_91 xs Ln k91) xs Ln a3 a4 a5 a6 a11 s0 γ = res → W p l e room_1 s m #[Value.ref b] below meth c H locs cells slots (lw_Z below #[Value.ref b] s) (F0 m 773 ls [.int s0]) := by
        intro a3 a4 a5 a6 a11 s0 γ H locs ls cells slots hl hH hS hc1 hc2 hq
        refine lv_goto (tgt := 777) hx hb dL_law_773 (by decide) ?_
        exact b_777 a3 a4 a5 a6 a11 s0 γ _ _ _ _ _ (lv_sub hl [0, 1, 2, 3, 4, 5, 6] rfl) hH hS (by omega) (by omega) hq
      have b_752 : ∀ (a3 : Int32) (a4 : Int32) (a5 : Int32) (a6 : Int32) (a11 : Int32) (s0 : Int32) (γ : St) (H : Heap) (locs : List Loc) (ls : Array Slot) (cells slots : Nat), lv_has ls 21 [(0, .ref b), (2, .ref (kA κ 7 0)), (3, .int a3), (4, .int a4), (5, .int a5), (6, .int a6), (11, .int a11)] → HE κ γ H → va_S (AA κ) s.heap H locs → cells + (5073 + 2541 * k91) ≤ 239061 → slots + (49708 + 24928 * k91) ≤ 2388772 → x_LB_752 (x_LB_91 xs Ln k91) xs Ln a3 a4 a5 a6 a11 s0 γ = res → W p l e room_1 s m #[Value.ref b] below meth c H locs cells slots (lw_Z below #[Value.ref b] s) (F0 m 752 ls [.int s0]) := by
        intro a3 a4 a5 a6 a11 s0 γ H locs ls cells slots hl hH hS hc1 hc2 hq
        refine lv_goto (tgt := 777) hx hb dL_law_752 (by decide) ?_
        exact b_777 a3 a4 a5 a6 a11 s0 γ _ _ _ _ _ (lv_sub hl [0, 1, 2, 3, 4, 5, 6] rfl) hH hS (by omega) (by omega) hq
      have b_724 : ∀ (a3 : Int32) (a4 : Int32) (a5 : Int32) (a6 : Int32) (a11 : Int32) (s0 : Int32) (γ : St) (H : Heap) (locs : List Loc) (ls : Array Slot) (cells slots : Nat), lv_has ls 21 [(0, .ref b), (2, .ref (kA κ 7 0)), (3, .int a3), (4, .int a4), (5, .int a5), (6, .int a6), (11, .int a11)] → HE κ γ H → va_S (AA κ) s.heap H locs → cells + (5073 + 2541 * k91) ≤ 239061 → slots + (49708 + 24928 * k91) ≤ 2388772 → x_LB_724 (x_LB_91 xs Ln k91) xs Ln a3 a4 a5 a6 a11 s0 γ = res → W p l e room_1 s m #[Value.ref b] below meth c H locs cells slots (lw_Z below #[Value.ref b] s) (F0 m 724 ls [.int s0]) := by
        intro a3 a4 a5 a6 a11 s0 γ H locs ls cells slots hl hH hS hc1 hc2 hq
        refine lv_goto (tgt := 777) hx hb dL_law_724 (by decide) ?_
        exact b_777 a3 a4 a5 a6 a11 s0 γ _ _ _ _ _ (lv_sub hl [0, 1, 2, 3, 4, 5, 6] rfl) hH hS (by omega) (by omega) hq
      have b_689 : ∀ (a3 : Int32) (a4 : Int32) (a5 : Int32) (a6 : Int32) (γ : St) (H : Heap) (locs : List Loc) (ls : Array Slot) (cells slots : Nat), lv_has ls 21 [(0, .ref b), (2, .ref (kA κ 7 0)), (3, .int a3), (4, .int a4), (5, .int a5), (6, .int a6)] → HE κ γ H → va_S (AA κ) s.heap H locs → cells + (5073 + 2541 * k91) ≤ 239061 → slots + (49708 + 24928 * k91) ≤ 2388772 → x_LB_689 (x_LB_91 xs Ln k91) xs Ln a3 a4 a5 a6 γ = res → W p l e room_1 s m #[Value.ref b] below meth c H locs cells slots (lw_Z below #[Value.ref b] s) (F0 m 689 ls []) := by
        intro a3 a4 a5 a6 γ H locs ls cells slots hl hH hS hc1 hc2 hq
        refine lv_goto (tgt := 979) hx hb dL_law_689 (by decide) ?_
        exact b_979 a3 a4 a5 a6 γ _ _ _ _ _ (lv_sub hl [0, 1, 2, 3, 4, 5] rfl) hH hS (by omega) (by omega) hq
      have b_618 : ∀ (a3 : Int32) (a4 : Int32) (a5 : Int32) (a6 : Int32) (a11 : Int32) (a12 : Int32) (a13 : Int32) (a14 : Int32) (s0 : Int32) (γ : St) (H : Heap) (locs : List Loc) (ls : Array Slot) (cells slots : Nat), lv_has ls 21 [(0, .ref b), (2, .ref (kA κ 7 0)), (3, .int a3), (4, .int a4), (5, .int a5), (6, .int a6), (11, .int a11), (12, .int a12), (13, .int a13), (14, .int a14)] → HE κ γ H → va_S (AA κ) s.heap H locs → cells + (5075 + 2541 * k91) ≤ 239061 → slots + (49720 + 24928 * k91) ≤ 2388772 → x_LB_618 (x_LB_91 xs Ln k91) xs Ln a3 a4 a5 a6 a11 a12 a13 a14 s0 γ = res → W p l e room_1 s m #[Value.ref b] below meth c H locs cells slots (lw_Z below #[Value.ref b] s) (F0 m 618 ls [.int s0]) := by
        intro a3 a4 a5 a6 a11 a12 a13 a14 s0 γ H locs ls cells slots hl hH hS hc1 hc2 hq
        refine lv_iload hx hb dL_law_618 (lv_at hl 6 rfl) ?_
        refine lv_icmp_eq (tgt := 687) hx hb dL_law_620 (by decide) (fun c445 => ?_) (fun c445 => ?_)
        · have hq := ifpe hq c445
          exact b_687 γ _ _ _ _ _ (lv_sub hl [] rfl) hH hS (by omega) (by omega) hq
        · have hq := ifne hq c445
          refine lv_iload hx hb dL_law_623 (lv_at hl 9 rfl) ?_
          refine lv_if_lt (tgt := 689) hx hb dL_law_625 (by decide) (fun c446 => ?_) (fun c446 => ?_)
          · have hq := ifpe hq c446
            exact b_689 a3 a4 a5 a6 γ _ _ _ _ _ (lv_sub hl [0, 1, 2, 3, 4, 5] rfl) hH hS (by omega) (by omega) hq
          · have hq := ifne hq c446
            refine lv_aload_n hx hb dL_law_628 rfl (lv_at hl 1 rfl) ?_
            refine lv_iload hx hb dL_law_629 (lv_at hl 4 rfl) ?_
            refine lv_iconst (v := 1) hx hb dL_law_631 (by decide) ?_
            refine lv_isub hx hb dL_law_632 ?_
            refine lv_iconst (v := 0) hx hb dL_law_633 (by decide) ?_
            refine e_xcallV (rest := []) hC hl hH hS (co_ofBout l hfl κ γ (a5 - 1) 0) tw_254 tw_255 tw_256 tw_38 tw_257 hd_X7_ofBout ⟨Nat.le_of_ble_eq_true rfl, Nat.le_of_ble_eq_true rfl⟩ rfl rfl rfl rfl (Nat.le_of_ble_eq_true rfl) dL_law_634 ⟨by show _ ≤ 600086; omega, by show _ ≤ 7301442; omega⟩ rfl (fun he447 ce q9 H locs hH hS hce hcv hcl => ?_) (fun he447 H locs hH hS => ?_)
            · exact flag_bad (ifne hq he447) hk
            have hq := ifpe hq he447
            refine lv_iload hx hb dL_law_637 (lv_at hl 7 rfl) ?_
            refine lv_iload hx hb dL_law_639 (lv_at hl 9 rfl) ?_
            refine lv_iconst (v := 2) hx hb dL_law_641 (by decide) ?_
            refine lv_irem hx hb dL_law_642 (by decide) ?_
            refine lv_iadd hx hb dL_law_643 ?_
            refine lv_icmp_ne (tgt := 687) hx hb dL_law_644 (by decide) (fun c448 => ?_) (fun c448 => ?_)
            · have hq := ifne hq c448
              exact b_687 (x_X7_ofBout (a5 - 1) 0 γ).2.2 _ _ _ _ _ (lv_sub hl [] rfl) hH hS (by omega) (by omega) hq
            · have hq := ifpe hq c448
              refine lv_aload_n hx hb dL_law_647 rfl (lv_at hl 1 rfl) ?_
              refine lv_iload hx hb dL_law_648 (lv_at hl 4 rfl) ?_
              refine lv_iconst (v := 1) hx hb dL_law_650 (by decide) ?_
              refine lv_isub hx hb dL_law_651 ?_
              refine lv_iconst (v := 1) hx hb dL_law_652 (by decide) ?_
              refine e_xcallV (rest := []) hC hl hH hS (co_ofBout l hfl κ (x_X7_ofBout (a5 - 1) 0 γ).2.2 (a5 - 1) 1) tw_254 tw_255 tw_256 tw_38 tw_257 hd_X7_ofBout ⟨Nat.le_of_ble_eq_true rfl, Nat.le_of_ble_eq_true rfl⟩ rfl rfl rfl rfl (Nat.le_of_ble_eq_true rfl) dL_law_653 ⟨by show _ ≤ 600086; omega, by show _ ≤ 7301442; omega⟩ rfl (fun he449 ce q9 H locs hH hS hce hcv hcl => ?_) (fun he449 H locs hH hS => ?_)
              · exact flag_bad (ifne hq he449) hk
              have hq := ifpe hq he449
              refine lv_iload hx hb dL_law_656 (lv_at hl 8 rfl) ?_
              refine lv_iload hx hb dL_law_658 (lv_at hl 9 rfl) ?_
              refine lv_iconst (v := 2) hx hb dL_law_660 (by decide) ?_
              refine lv_idiv hx hb dL_law_661 (by decide) ?_
              refine lv_iadd hx hb dL_law_662 ?_
              refine lv_icmp_ne (tgt := 687) hx hb dL_law_663 (by decide) (fun c450 => ?_) (fun c450 => ?_)
              · have hq := ifne hq c450
                exact b_687 (x_X7_ofBout (a5 - 1) 1 (x_X7_ofBout (a5 - 1) 0 γ).2.2).2.2 _ _ _ _ _ (lv_sub hl [] rfl) hH hS (by omega) (by omega) hq
              · have hq := ifpe hq c450
                refine lv_aload_n hx hb dL_law_666 rfl (lv_at hl 1 rfl) ?_
                refine e_callV (rest := []) hC hl hH hS (co_reason l κ (x_X7_ofBout (a5 - 1) 1 (x_X7_ofBout (a5 - 1) 0 γ).2.2).2.2) tw_250 tw_251 tw_252 tw_38 tw_253 hd_X7_reason ⟨Nat.le_of_ble_eq_true rfl, Nat.le_of_ble_eq_true rfl⟩ rfl rfl rfl rfl (Nat.le_of_ble_eq_true rfl) dL_law_667 ⟨by show _ ≤ 600086; omega, by show _ ≤ 7301442; omega⟩ rfl (fun H locs hH hS => ?_)
                refine lv_if_lt (tgt := 687) hx hb dL_law_670 (by decide) (fun c451 => ?_) (fun c451 => ?_)
                · have hq := ifpe hq c451
                  exact b_687 (x_X7_ofBout (a5 - 1) 1 (x_X7_ofBout (a5 - 1) 0 γ).2.2).2.2 _ _ _ _ _ (lv_sub hl [] rfl) hH hS (by omega) (by omega) hq
                · have hq := ifne hq c451
                  refine lv_iload hx hb dL_law_673 (lv_at hl 9 rfl) ?_
                  refine lv_iconst (v := 3) hx hb dL_law_675 (by decide) ?_
                  refine lv_icmp_ne (tgt := 689) hx hb dL_law_676 (by decide) (fun c452 => ?_) (fun c452 => ?_)
                  · have hq := ifne hq c452
                    exact b_689 a3 a4 a5 a6 (x_X7_ofBout (a5 - 1) 1 (x_X7_ofBout (a5 - 1) 0 γ).2.2).2.2 _ _ _ _ _ (lv_sub hl [0, 1, 2, 3, 4, 5] rfl) hH hS (by omega) (by omega) hq
                  · have hq := ifpe hq c452
                    refine lv_aload_n hx hb dL_law_679 rfl (lv_at hl 1 rfl) ?_
                    refine e_callV (rest := []) hC hl hH hS (co_reason l κ (x_X7_ofBout (a5 - 1) 1 (x_X7_ofBout (a5 - 1) 0 γ).2.2).2.2) tw_250 tw_251 tw_252 tw_38 tw_253 hd_X7_reason ⟨Nat.le_of_ble_eq_true rfl, Nat.le_of_ble_eq_true rfl⟩ rfl rfl rfl rfl (Nat.le_of_ble_eq_true rfl) dL_law_680 ⟨by show _ ≤ 600086; omega, by show _ ≤ 7301442; omega⟩ rfl (fun H locs hH hS => ?_)
                    refine lv_iconst (v := 3) hx hb dL_law_683 (by decide) ?_
                    refine lv_icmp_eq (tgt := 689) hx hb dL_law_684 (by decide) (fun c453 => ?_) (fun c453 => ?_)
                    · have hq := ifpe hq c453
                      exact b_689 a3 a4 a5 a6 (x_X7_ofBout (a5 - 1) 1 (x_X7_ofBout (a5 - 1) 0 γ).2.2).2.2 _ _ _ _ _ (lv_sub hl [0, 1, 2, 3, 4, 5] rfl) hH hS (by omega) (by omega) hq
                    · have hq := ifne hq c453
                      exact b_687 (x_X7_ofBout (a5 - 1) 1 (x_X7_ofBout (a5 - 1) 0 γ).2.2).2.2 _ _ _ _ _ (lv_sub hl [] rfl) hH hS (by omega) (by omega) hq
      have b_606 : ∀ (a3 : Int32) (a4 : Int32) (a5 : Int32) (a6 : Int32) (a11 : Int32) (a12 : Int32) (a13 : Int32) (s0 : Int32) (γ : St) (H : Heap) (locs : List Loc) (ls : Array Slot) (cells slots : Nat), lv_has ls 21 [(0, .ref b), (2, .ref (kA κ 7 0)), (3, .int a3), (4, .int a4), (5, .int a5), (6, .int a6), (11, .int a11), (12, .int a12), (13, .int a13)] → HE κ γ H → va_S (AA κ) s.heap H locs → cells + (5075 + 2541 * k91) ≤ 239061 → slots + (49720 + 24928 * k91) ≤ 2388772 → x_LB_606 (x_LB_91 xs Ln k91) xs Ln a3 a4 a5 a6 a11 a12 a13 s0 γ = res → W p l e room_1 s m #[Value.ref b] below meth c H locs cells slots (lw_Z below #[Value.ref b] s) (F0 m 606 ls [.int s0]) := by
        intro a3 a4 a5 a6 a11 a12 a13 s0 γ H locs ls cells slots hl hH hS hc1 hc2 hq
        refine lv_istore (lv' := [(14, .int s0), (0, .ref b), (2, .ref (kA κ 7 0)), (3, .int a3), (4, .int a4), (5, .int a5), (6, .int a6), (11, .int a11), (12, .int a12), (13, .int a13)]) hx hb dL_law_606 hl (by decide) rfl (fun ls hl => ?_)
        refine lv_iload hx hb dL_law_608 (lv_at hl 0 rfl) ?_
        refine lv_if_ge (tgt := 617) hx hb dL_law_610 (by decide) (fun c454 => ?_) (fun c454 => ?_)
        · have hq := ifpe hq c454
          refine lv_iconst (v := 0) hx hb dL_law_617 (by decide) ?_
          exact b_618 a3 a4 a5 a6 a11 a12 a13 s0 0 γ _ _ _ _ _ (lv_sub hl [1, 2, 3, 4, 5, 6, 7, 8, 9, 0] rfl) hH hS (by omega) (by omega) hq
        · have hq := ifne hq c454
          refine lv_iconst (v := 1) hx hb dL_law_613 (by decide) ?_
          refine lv_goto (tgt := 618) hx hb dL_law_614 (by decide) ?_
          exact b_618 a3 a4 a5 a6 a11 a12 a13 s0 1 γ _ _ _ _ _ (lv_sub hl [1, 2, 3, 4, 5, 6, 7, 8, 9, 0] rfl) hH hS (by omega) (by omega) hq
      have b_594 : ∀ (a3 : Int32) (a4 : Int32) (a5 : Int32) (a6 : Int32) (a11 : Int32) (a12 : Int32) (s0 : Int32) (γ : St) (H : Heap) (locs : List Loc) (ls : Array Slot) (cells slots : Nat), lv_has ls 21 [(0, .ref b), (2, .ref (kA κ 7 0)), (3, .int a3), (4, .int a4), (5, .int a5), (6, .int a6), (11, .int a11), (12, .int a12)] → HE κ γ H → va_S (AA κ) s.heap H locs → cells + (5078 + 2541 * k91) ≤ 239061 → slots + (49785 + 24928 * k91) ≤ 2388772 → x_LB_594 (x_LB_91 xs Ln k91) xs Ln a3 a4 a5 a6 a11 a12 s0 γ = res → W p l e room_1 s m #[Value.ref b] below meth c H locs cells slots (lw_Z below #[Value.ref b] s) (F0 m 594 ls [.int s0]) := by
        intro a3 a4 a5 a6 a11 a12 s0 γ H locs ls cells slots hl hH hS hc1 hc2 hq
        refine lv_istore (lv' := [(13, .int s0), (0, .ref b), (2, .ref (kA κ 7 0)), (3, .int a3), (4, .int a4), (5, .int a5), (6, .int a6), (11, .int a11), (12, .int a12)]) hx hb dL_law_594 hl (by decide) rfl (fun ls hl => ?_)
        refine lv_aload_n hx hb dL_law_596 rfl (lv_at hl 2 rfl) ?_
        refine lv_iconst (v := 4) hx hb dL_law_597 (by decide) ?_
        refine lv_iconst (v := 0) hx hb dL_law_598 (by decide) ?_
        refine lv_iconst (v := 0) hx hb dL_law_599 (by decide) ?_
        refine lv_iconst (v := 0) hx hb dL_law_600 (by decide) ?_
        refine lv_iconst (v := 0) hx hb dL_law_601 (by decide) ?_
        refine lv_iconst (v := 0) hx hb dL_law_602 (by decide) ?_
        refine e_callW (rest := []) hC hl hH hS (c_L_call l hfl κ γ 4 0 0 0 0 0) tw_430 tw_431 tw_37 tw_432 hd_L_call ⟨Nat.le_of_ble_eq_true rfl, Nat.le_of_ble_eq_true rfl⟩ rfl rfl rfl rfl (Nat.le_of_ble_eq_true rfl) dL_law_603 ⟨by show _ ≤ 600086; omega, by show _ ≤ 7301442; omega⟩ rfl (fun H locs hH hS => ?_)
        exact b_606 a3 a4 a5 a6 a11 a12 s0 ((x_L_call 4 0 0 0 0 0 γ).1) (x_L_call 4 0 0 0 0 0 γ).2 _ _ _ _ _ (lv_sub hl [1, 2, 3, 4, 5, 6, 7, 8, 0] rfl) hH hS (by omega) (by omega) hq
      have b_574 : ∀ (a3 : Int32) (a4 : Int32) (a5 : Int32) (a6 : Int32) (a11 : Int32) (s0 : Int32) (γ : St) (H : Heap) (locs : List Loc) (ls : Array Slot) (cells slots : Nat), lv_has ls 21 [(0, .ref b), (2, .ref (kA κ 7 0)), (3, .int a3), (4, .int a4), (5, .int a5), (6, .int a6), (11, .int a11)] → HE κ γ H → va_S (AA κ) s.heap H locs → cells + (5079 + 2541 * k91) ≤ 239061 → slots + (49791 + 24928 * k91) ≤ 2388772 → x_LB_574 (x_LB_91 xs Ln k91) xs Ln a3 a4 a5 a6 a11 s0 γ = res → W p l e room_1 s m #[Value.ref b] below meth c H locs cells slots (lw_Z below #[Value.ref b] s) (F0 m 574 ls [.int s0]) := by
        intro a3 a4 a5 a6 a11 s0 γ H locs ls cells slots hl hH hS hc1 hc2 hq
        refine lv_istore (lv' := [(12, .int s0), (0, .ref b), (2, .ref (kA κ 7 0)), (3, .int a3), (4, .int a4), (5, .int a5), (6, .int a6), (11, .int a11)]) hx hb dL_law_574 hl (by decide) rfl (fun ls hl => ?_)
        refine lv_iload hx hb dL_law_576 (lv_at hl 7 rfl) ?_
        refine lv_if_eq (tgt := 593) hx hb dL_law_578 (by decide) (fun c455 => ?_) (fun c455 => ?_)
        · have hq := ifpe hq c455
          refine lv_iconst (v := 0) hx hb dL_law_593 (by decide) ?_
          exact b_594 a3 a4 a5 a6 a11 s0 0 γ _ _ _ _ _ (lv_sub hl [1, 2, 3, 4, 5, 6, 7, 0] rfl) hH hS (by omega) (by omega) hq
        · have hq := ifne hq c455
          refine lv_aload_n hx hb dL_law_581 rfl (lv_at hl 2 rfl) ?_
          refine lv_iload hx hb dL_law_582 (lv_at hl 5 rfl) ?_
          refine lv_iconst (v := 1) hx hb dL_law_584 (by decide) ?_
          refine lv_isub hx hb dL_law_585 ?_
          refine lv_iconst (v := 1) hx hb dL_law_586 (by decide) ?_
          refine e_xcallV (rest := []) hC hl hH hS (co_ofBout l hfl κ γ (a5 - 1) 1) tw_254 tw_255 tw_256 tw_38 tw_257 hd_X7_ofBout ⟨Nat.le_of_ble_eq_true rfl, Nat.le_of_ble_eq_true rfl⟩ rfl rfl rfl rfl (Nat.le_of_ble_eq_true rfl) dL_law_587 ⟨by show _ ≤ 600086; omega, by show _ ≤ 7301442; omega⟩ rfl (fun he456 ce q9 H locs hH hS hce hcv hcl => ?_) (fun he456 H locs hH hS => ?_)
          · exact flag_bad (ifne hq he456) hk
          have hq := ifpe hq he456
          refine lv_goto (tgt := 594) hx hb dL_law_590 (by decide) ?_
          exact b_594 a3 a4 a5 a6 a11 s0 ((x_X7_ofBout (a5 - 1) 1 γ).2.1) (x_X7_ofBout (a5 - 1) 1 γ).2.2 _ _ _ _ _ (lv_sub hl [1, 2, 3, 4, 5, 6, 7, 0] rfl) hH hS (by omega) (by omega) hq
      have b_546 : ∀ (a3 : Int32) (a4 : Int32) (a5 : Int32) (a6 : Int32) (γ : St) (H : Heap) (locs : List Loc) (ls : Array Slot) (cells slots : Nat), lv_has ls 21 [(0, .ref b), (2, .ref (kA κ 7 0)), (3, .int a3), (4, .int a4), (5, .int a5), (6, .int a6)] → HE κ γ H → va_S (AA κ) s.heap H locs → cells + (5073 + 2541 * k91) ≤ 239061 → slots + (49708 + 24928 * k91) ≤ 2388772 → x_LB_546 (x_LB_91 xs Ln k91) xs Ln a3 a4 a5 a6 γ = res → W p l e room_1 s m #[Value.ref b] below meth c H locs cells slots (lw_Z below #[Value.ref b] s) (F0 m 546 ls []) := by
        intro a3 a4 a5 a6 γ H locs ls cells slots hl hH hS hc1 hc2 hq
        refine lv_goto (tgt := 979) hx hb dL_law_546 (by decide) ?_
        exact b_979 a3 a4 a5 a6 γ _ _ _ _ _ (lv_sub hl [0, 1, 2, 3, 4, 5] rfl) hH hS (by omega) (by omega) hq
      have b_532 : ∀ (a3 : Int32) (a4 : Int32) (a5 : Int32) (a6 : Int32) (a11 : Int32) (a12 : Int32) (γ : St) (H : Heap) (locs : List Loc) (ls : Array Slot) (cells slots : Nat), lv_has ls 21 [(0, .ref b), (2, .ref (kA κ 7 0)), (3, .int a3), (4, .int a4), (5, .int a5), (6, .int a6), (11, .int a11), (12, .int a12)] → HE κ γ H → va_S (AA κ) s.heap H locs → cells + (5073 + 2541 * k91) ≤ 239061 → slots + (49708 + 24928 * k91) ≤ 2388772 → x_LB_532 (x_LB_91 xs Ln k91) xs Ln a3 a4 a5 a6 a11 a12 γ = res → W p l e room_1 s m #[Value.ref b] below meth c H locs cells slots (lw_Z below #[Value.ref b] s) (F0 m 532 ls []) := by
        intro a3 a4 a5 a6 a11 a12 γ H locs ls cells slots hl hH hS hc1 hc2 hq
        refine lv_iload hx hb dL_law_532 (lv_at hl 6 rfl) ?_
        refine lv_if_ne (tgt := 546) hx hb dL_law_534 (by decide) (fun c457 => ?_) (fun c457 => ?_)
        · have hq := ifne hq c457
          exact b_546 a3 a4 a5 a6 γ _ _ _ _ _ (lv_sub hl [0, 1, 2, 3, 4, 5] rfl) hH hS (by omega) (by omega) hq
        · have hq := ifpe hq c457
          refine lv_iload hx hb dL_law_537 (lv_at hl 7 rfl) ?_
          refine lv_bipush (v := (-73)) hx hb dL_law_539 (by decide) ?_
          refine lv_icmp_eq (tgt := 546) hx hb dL_law_541 (by decide) (fun c458 => ?_) (fun c458 => ?_)
          · have hq := ifpe hq c458
            exact b_546 a3 a4 a5 a6 γ _ _ _ _ _ (lv_sub hl [0, 1, 2, 3, 4, 5] rfl) hH hS (by omega) (by omega) hq
          · have hq := ifne hq c458
            exact b_544 γ _ _ _ _ _ (lv_sub hl [] rfl) hH hS (by omega) (by omega) hq
      have b_506 : ∀ (a3 : Int32) (a4 : Int32) (a5 : Int32) (a6 : Int32) (a11 : Int32) (s0 : Int32) (γ : St) (H : Heap) (locs : List Loc) (ls : Array Slot) (cells slots : Nat), lv_has ls 21 [(0, .ref b), (2, .ref (kA κ 7 0)), (3, .int a3), (4, .int a4), (5, .int a5), (6, .int a6), (11, .int a11)] → HE κ γ H → va_S (AA κ) s.heap H locs → cells + (5073 + 2541 * k91) ≤ 239061 → slots + (49708 + 24928 * k91) ≤ 2388772 → x_LB_506 (x_LB_91 xs Ln k91) xs Ln a3 a4 a5 a6 a11 s0 γ = res → W p l e room_1 s m #[Value.ref b] below meth c H locs cells slots (lw_Z below #[Value.ref b] s) (F0 m 506 ls [.int s0]) := by
        intro a3 a4 a5 a6 a11 s0 γ H locs ls cells slots hl hH hS hc1 hc2 hq
        refine lv_istore (lv' := [(12, .int s0), (0, .ref b), (2, .ref (kA κ 7 0)), (3, .int a3), (4, .int a4), (5, .int a5), (6, .int a6), (11, .int a11)]) hx hb dL_law_506 hl (by decide) rfl (fun ls hl => ?_)
        refine lv_iload hx hb dL_law_508 (lv_at hl 0 rfl) ?_
        refine lv_bipush (v := (-72)) hx hb dL_law_510 (by decide) ?_
        refine lv_icmp_eq (tgt := 544) hx hb dL_law_512 (by decide) (fun c459 => ?_) (fun c459 => ?_)
        · have hq := ifpe hq c459
          exact b_544 γ _ _ _ _ _ (lv_sub hl [] rfl) hH hS (by omega) (by omega) hq
        · have hq := ifne hq c459
          refine lv_iload hx hb dL_law_515 (lv_at hl 0 rfl) ?_
          refine lv_bipush (v := 24) hx hb dL_law_517 (by decide) ?_
          refine lv_icmp_gt (tgt := 544) hx hb dL_law_519 (by decide) (fun c460 => ?_) (fun c460 => ?_)
          · have hq := ifpe hq c460
            exact b_544 γ _ _ _ _ _ (lv_sub hl [] rfl) hH hS (by omega) (by omega) hq
          · have hq := ifne hq c460
            refine lv_iload hx hb dL_law_522 (lv_at hl 0 rfl) ?_
            refine lv_if_le (tgt := 532) hx hb dL_law_524 (by decide) (fun c461 => ?_) (fun c461 => ?_)
            · have hq := ifpe hq c461
              exact b_532 a3 a4 a5 a6 a11 s0 γ _ _ _ _ _ (lv_sub hl [1, 2, 3, 4, 5, 6, 7, 0] rfl) hH hS (by omega) (by omega) hq
            · have hq := ifne hq c461
              refine lv_iload hx hb dL_law_527 (lv_at hl 7 rfl) ?_
              refine lv_if_eq (tgt := 544) hx hb dL_law_529 (by decide) (fun c462 => ?_) (fun c462 => ?_)
              · have hq := ifpe hq c462
                exact b_544 γ _ _ _ _ _ (lv_sub hl [] rfl) hH hS (by omega) (by omega) hq
              · have hq := ifne hq c462
                exact b_532 a3 a4 a5 a6 a11 s0 γ _ _ _ _ _ (lv_sub hl [1, 2, 3, 4, 5, 6, 7, 0] rfl) hH hS (by omega) (by omega) hq
      have b_478 : ∀ (a3 : Int32) (a4 : Int32) (a5 : Int32) (a6 : Int32) (a11 : Int32) (s0 : Int32) (γ : St) (H : Heap) (locs : List Loc) (ls : Array Slot) (cells slots : Nat), lv_has ls 21 [(0, .ref b), (2, .ref (kA κ 7 0)), (3, .int a3), (4, .int a4), (5, .int a5), (6, .int a6), (11, .int a11)] → HE κ γ H → va_S (AA κ) s.heap H locs → cells + (5073 + 2541 * k91) ≤ 239061 → slots + (49708 + 24928 * k91) ≤ 2388772 → x_LB_478 (x_LB_91 xs Ln k91) xs Ln a3 a4 a5 a6 a11 s0 γ = res → W p l e room_1 s m #[Value.ref b] below meth c H locs cells slots (lw_Z below #[Value.ref b] s) (F0 m 478 ls [.int s0]) := by
        intro a3 a4 a5 a6 a11 s0 γ H locs ls cells slots hl hH hS hc1 hc2 hq
        refine lv_goto (tgt := 506) hx hb dL_law_478 (by decide) ?_
        exact b_506 a3 a4 a5 a6 a11 s0 γ _ _ _ _ _ (lv_sub hl [0, 1, 2, 3, 4, 5, 6] rfl) hH hS (by omega) (by omega) hq
      have b_430 : ∀ (a3 : Int32) (a4 : Int32) (a6 : Int32) (s0 : Int32) (s1 : Int32) (γ : St) (H : Heap) (locs : List Loc) (ls : Array Slot) (cells slots : Nat), lv_has ls 21 [(0, .ref b), (2, .ref (kA κ 7 0)), (3, .int a3), (4, .int a4), (6, .int a6)] → HE κ γ H → va_S (AA κ) s.heap H locs → cells + (5073 + 2541 * k91) ≤ 239061 → slots + (49708 + 24928 * k91) ≤ 2388772 → x_LB_430 (x_LB_91 xs Ln k91) xs Ln a3 a4 a6 s0 s1 γ = res → W p l e room_1 s m #[Value.ref b] below meth c H locs cells slots (lw_Z below #[Value.ref b] s) (F0 m 430 ls [.int s0, .int s1]) := by
        intro a3 a4 a6 s0 s1 γ H locs ls cells slots hl hH hS hc1 hc2 hq
        refine lv_iadd hx hb dL_law_430 ?_
        refine lv_istore (lv' := [(5, .int (s1 + s0)), (0, .ref b), (2, .ref (kA κ 7 0)), (3, .int a3), (4, .int a4), (6, .int a6)]) hx hb dL_law_431 hl (by decide) rfl (fun ls hl => ?_)
        refine lv_goto (tgt := 979) hx hb dL_law_433 (by decide) ?_
        exact b_979 a3 a4 (s1 + s0) a6 γ _ _ _ _ _ (lv_sub hl [1, 2, 3, 4, 0, 5] rfl) hH hS (by omega) (by omega) hq
      have b_409 : ∀ (a3 : Int32) (a4 : Int32) (a5 : Int32) (a6 : Int32) (a13 : Int32) (γ : St) (H : Heap) (locs : List Loc) (ls : Array Slot) (cells slots : Nat), lv_has ls 21 [(0, .ref b), (2, .ref (kA κ 7 0)), (3, .int a3), (4, .int a4), (5, .int a5), (6, .int a6), (13, .int a13)] → HE κ γ H → va_S (AA κ) s.heap H locs → cells + (5073 + 2541 * k91) ≤ 239061 → slots + (49708 + 24928 * k91) ≤ 2388772 → x_LB_409 (x_LB_91 xs Ln k91) xs Ln a3 a4 a5 a6 a13 γ = res → W p l e room_1 s m #[Value.ref b] below meth c H locs cells slots (lw_Z below #[Value.ref b] s) (F0 m 409 ls []) := by
        intro a3 a4 a5 a6 a13 γ H locs ls cells slots hl hH hS hc1 hc2 hq
        refine lv_iload hx hb dL_law_409 (lv_at hl 6 rfl) ?_
        refine lv_bipush (v := (-71)) hx hb dL_law_411 (by decide) ?_
        refine lv_icmp_ne (tgt := 418) hx hb dL_law_413 (by decide) (fun c463 => ?_) (fun c463 => ?_)
        · have hq := ifne hq c463
          refine lv_iload hx hb dL_law_418 (lv_at hl 4 rfl) ?_
          refine lv_iload hx hb dL_law_420 (lv_at hl 6 rfl) ?_
          refine lv_if_ge (tgt := 429) hx hb dL_law_422 (by decide) (fun c464 => ?_) (fun c464 => ?_)
          · have hq := ifpe hq c464
            refine lv_iconst (v := 1) hx hb dL_law_429 (by decide) ?_
            exact b_430 a3 a4 a6 1 a5 γ _ _ _ _ _ (lv_sub hl [0, 1, 2, 3, 5] rfl) hH hS (by omega) (by omega) hq
          · have hq := ifne hq c464
            refine lv_iconst (v := 0) hx hb dL_law_425 (by decide) ?_
            refine lv_goto (tgt := 430) hx hb dL_law_426 (by decide) ?_
            exact b_430 a3 a4 a6 0 a5 γ _ _ _ _ _ (lv_sub hl [0, 1, 2, 3, 5] rfl) hH hS (by omega) (by omega) hq
        · have hq := ifpe hq c463
          exact b_416 γ _ _ _ _ _ (lv_sub hl [] rfl) hH hS (by omega) (by omega) hq
      have b_390 : ∀ (a3 : Int32) (a4 : Int32) (a5 : Int32) (a6 : Int32) (a11 : Int32) (s0 : Int32) (γ : St) (H : Heap) (locs : List Loc) (ls : Array Slot) (cells slots : Nat), lv_has ls 21 [(0, .ref b), (2, .ref (kA κ 7 0)), (3, .int a3), (4, .int a4), (5, .int a5), (6, .int a6), (11, .int a11)] → HE κ γ H → va_S (AA κ) s.heap H locs → cells + (5073 + 2541 * k91) ≤ 239061 → slots + (49708 + 24928 * k91) ≤ 2388772 → x_LB_390 (x_LB_91 xs Ln k91) xs Ln a3 a4 a5 a6 a11 s0 γ = res → W p l e room_1 s m #[Value.ref b] below meth c H locs cells slots (lw_Z below #[Value.ref b] s) (F0 m 390 ls [.int s0]) := by
        intro a3 a4 a5 a6 a11 s0 γ H locs ls cells slots hl hH hS hc1 hc2 hq
        refine lv_istore (lv' := [(13, .int s0), (0, .ref b), (2, .ref (kA κ 7 0)), (3, .int a3), (4, .int a4), (5, .int a5), (6, .int a6), (11, .int a11)]) hx hb dL_law_390 hl (by decide) rfl (fun ls hl => ?_)
        refine lv_iload hx hb dL_law_392 (lv_at hl 0 rfl) ?_
        refine lv_if_lt (tgt := 409) hx hb dL_law_394 (by decide) (fun c465 => ?_) (fun c465 => ?_)
        · have hq := ifpe hq c465
          exact b_409 a3 a4 a5 a6 s0 γ _ _ _ _ _ (lv_sub hl [1, 2, 3, 4, 5, 6, 0] rfl) hH hS (by omega) (by omega) hq
        · have hq := ifne hq c465
          refine lv_iload hx hb dL_law_397 (lv_at hl 0 rfl) ?_
          refine lv_iload hx hb dL_law_399 (lv_at hl 5 rfl) ?_
          refine lv_icmp_ne (tgt := 416) hx hb dL_law_401 (by decide) (fun c466 => ?_) (fun c466 => ?_)
          · have hq := ifne hq c466
            exact b_416 γ _ _ _ _ _ (lv_sub hl [] rfl) hH hS (by omega) (by omega) hq
          · have hq := ifpe hq c466
            refine lv_iload hx hb dL_law_404 (lv_at hl 7 rfl) ?_
            refine lv_if_ne (tgt := 416) hx hb dL_law_406 (by decide) (fun c467 => ?_) (fun c467 => ?_)
            · have hq := ifne hq c467
              exact b_416 γ _ _ _ _ _ (lv_sub hl [] rfl) hH hS (by omega) (by omega) hq
            · have hq := ifpe hq c467
              exact b_409 a3 a4 a5 a6 s0 γ _ _ _ _ _ (lv_sub hl [1, 2, 3, 4, 5, 6, 0] rfl) hH hS (by omega) (by omega) hq
      have b_362 : ∀ (a3 : Int32) (a4 : Int32) (a5 : Int32) (a6 : Int32) (a9 : Int32) (a10 : Int32) (a11 : Int32) (s0 : Int32) (γ : St) (H : Heap) (locs : List Loc) (ls : Array Slot) (cells slots : Nat), lv_has ls 21 [(0, .ref b), (2, .ref (kA κ 7 0)), (3, .int a3), (4, .int a4), (5, .int a5), (6, .int a6), (9, .int a9), (10, .int a10), (11, .int a11)] → HE κ γ H → va_S (AA κ) s.heap H locs → cells + (5076 + 2541 * k91) ≤ 239061 → slots + (49773 + 24928 * k91) ≤ 2388772 → x_LB_362 (x_LB_91 xs Ln k91) xs Ln a3 a4 a5 a6 a9 a10 a11 s0 γ = res → W p l e room_1 s m #[Value.ref b] below meth c H locs cells slots (lw_Z below #[Value.ref b] s) (F0 m 362 ls [.int s0]) := by
        intro a3 a4 a5 a6 a9 a10 a11 s0 γ H locs ls cells slots hl hH hS hc1 hc2 hq
        refine lv_istore (lv' := [(12, .int s0), (0, .ref b), (2, .ref (kA κ 7 0)), (3, .int a3), (4, .int a4), (5, .int a5), (6, .int a6), (9, .int a9), (10, .int a10), (11, .int a11)]) hx hb dL_law_362 hl (by decide) rfl (fun ls hl => ?_)
        refine lv_aload_n hx hb dL_law_364 rfl (lv_at hl 2 rfl) ?_
        refine lv_iconst (v := 1) hx hb dL_law_365 (by decide) ?_
        refine lv_iload hx hb dL_law_366 (lv_at hl 8 rfl) ?_
        refine lv_iload_n hx hb dL_law_368 rfl (lv_at hl 3 rfl) ?_
        by_cases hn468 : a3 = 0
        · exact flag_bad (ifpe hq hn468) hk
        have hq := ifne hq hn468
        refine lv_irem hx hb dL_law_369 hn468 ?_
        refine lv_iload hx hb dL_law_370 (lv_at hl 7 rfl) ?_
        refine lv_iload_n hx hb dL_law_372 rfl (lv_at hl 3 rfl) ?_
        by_cases hn469 : a3 = 0
        · exact flag_bad (ifpe hq hn469) hk
        have hq := ifne hq hn469
        refine lv_irem hx hb dL_law_373 hn469 ?_
        refine lv_iload hx hb dL_law_374 (lv_at hl 7 rfl) ?_
        refine lv_iconst (v := 3) hx hb dL_law_376 (by decide) ?_
        refine lv_irem hx hb dL_law_377 (by decide) ?_
        refine lv_iconst (v := 1) hx hb dL_law_378 (by decide) ?_
        refine lv_iload hx hb dL_law_379 (lv_at hl 8 rfl) ?_
        refine lv_bipush (v := 7) hx hb dL_law_381 (by decide) ?_
        refine lv_irem hx hb dL_law_383 (by decide) ?_
        refine lv_iadd hx hb dL_law_384 ?_
        refine lv_iload hx hb dL_law_385 (lv_at hl 0 rfl) ?_
        refine e_callW (rest := []) hC hl hH hS (c_L_call l hfl κ γ 1 (a10 - a10 / a3 * a3) (a9 - a9 / a3 * a3) (a9 - a9 / 3 * 3) (1 + (a10 - a10 / 7 * 7)) s0) tw_430 tw_431 tw_37 tw_432 hd_L_call ⟨Nat.le_of_ble_eq_true rfl, Nat.le_of_ble_eq_true rfl⟩ rfl rfl rfl rfl (Nat.le_of_ble_eq_true rfl) dL_law_387 ⟨by show _ ≤ 600086; omega, by show _ ≤ 7301442; omega⟩ rfl (fun H locs hH hS => ?_)
        exact b_390 a3 a4 a5 a6 a11 ((x_L_call 1 (a10 - a10 / a3 * a3) (a9 - a9 / a3 * a3) (a9 - a9 / 3 * 3) (1 + (a10 - a10 / 7 * 7)) s0 γ).1) (x_L_call 1 (a10 - a10 / a3 * a3) (a9 - a9 / a3 * a3) (a9 - a9 / 3 * 3) (1 + (a10 - a10 / 7 * 7)) s0 γ).2 _ _ _ _ _ (lv_sub hl [1, 2, 3, 4, 5, 6, 9] rfl) hH hS (by omega) (by omega) hq
      have b_353 : ∀ (a3 : Int32) (a4 : Int32) (a5 : Int32) (a6 : Int32) (a9 : Int32) (a10 : Int32) (a11 : Int32) (γ : St) (H : Heap) (locs : List Loc) (ls : Array Slot) (cells slots : Nat), lv_has ls 21 [(0, .ref b), (2, .ref (kA κ 7 0)), (3, .int a3), (4, .int a4), (5, .int a5), (6, .int a6), (9, .int a9), (10, .int a10), (11, .int a11)] → HE κ γ H → va_S (AA κ) s.heap H locs → cells + (5076 + 2541 * k91) ≤ 239061 → slots + (49773 + 24928 * k91) ≤ 2388772 → x_LB_353 (x_LB_91 xs Ln k91) xs Ln a3 a4 a5 a6 a9 a10 a11 γ = res → W p l e room_1 s m #[Value.ref b] below meth c H locs cells slots (lw_Z below #[Value.ref b] s) (F0 m 353 ls []) := by
        intro a3 a4 a5 a6 a9 a10 a11 γ H locs ls cells slots hl hH hS hc1 hc2 hq
        refine lv_iconst (v := (-1)) hx hb dL_law_353 (by decide) ?_
        refine lv_goto (tgt := 362) hx hb dL_law_354 (by decide) ?_
        exact b_362 a3 a4 a5 a6 a9 a10 a11 ((-1)) γ _ _ _ _ _ (lv_sub hl [0, 1, 2, 3, 4, 5, 6, 7, 8] rfl) hH hS (by omega) (by omega) hq
      have b_328 : ∀ (a3 : Int32) (a5 : Int32) (a6 : Int32) (s0 : Int32) (s1 : Int32) (γ : St) (H : Heap) (locs : List Loc) (ls : Array Slot) (cells slots : Nat), lv_has ls 21 [(0, .ref b), (2, .ref (kA κ 7 0)), (3, .int a3), (5, .int a5), (6, .int a6)] → HE κ γ H → va_S (AA κ) s.heap H locs → cells + (5073 + 2541 * k91) ≤ 239061 → slots + (49708 + 24928 * k91) ≤ 2388772 → x_LB_328 (x_LB_91 xs Ln k91) xs Ln a3 a5 a6 s0 s1 γ = res → W p l e room_1 s m #[Value.ref b] below meth c H locs cells slots (lw_Z below #[Value.ref b] s) (F0 m 328 ls [.int s0, .int s1]) := by
        intro a3 a5 a6 s0 s1 γ H locs ls cells slots hl hH hS hc1 hc2 hq
        refine lv_iadd hx hb dL_law_328 ?_
        refine lv_istore (lv' := [(4, .int (s1 + s0)), (0, .ref b), (2, .ref (kA κ 7 0)), (3, .int a3), (5, .int a5), (6, .int a6)]) hx hb dL_law_329 hl (by decide) rfl (fun ls hl => ?_)
        refine lv_goto (tgt := 979) hx hb dL_law_331 (by decide) ?_
        exact b_979 a3 (s1 + s0) a5 a6 γ _ _ _ _ _ (lv_sub hl [1, 2, 3, 0, 4, 5] rfl) hH hS (by omega) (by omega) hq
      have b_327 : ∀ (a3 : Int32) (a5 : Int32) (a6 : Int32) (s0 : Int32) (γ : St) (H : Heap) (locs : List Loc) (ls : Array Slot) (cells slots : Nat), lv_has ls 21 [(0, .ref b), (2, .ref (kA κ 7 0)), (3, .int a3), (5, .int a5), (6, .int a6)] → HE κ γ H → va_S (AA κ) s.heap H locs → cells + (5073 + 2541 * k91) ≤ 239061 → slots + (49708 + 24928 * k91) ≤ 2388772 → x_LB_327 (x_LB_91 xs Ln k91) xs Ln a3 a5 a6 s0 γ = res → W p l e room_1 s m #[Value.ref b] below meth c H locs cells slots (lw_Z below #[Value.ref b] s) (F0 m 327 ls [.int s0]) := by
        intro a3 a5 a6 s0 γ H locs ls cells slots hl hH hS hc1 hc2 hq
        refine lv_iconst (v := 0) hx hb dL_law_327 (by decide) ?_
        exact b_328 a3 a5 a6 0 s0 γ _ _ _ _ _ (lv_sub hl [0, 1, 2, 3, 4] rfl) hH hS (by omega) (by omega) hq
      have b_303 : ∀ (a3 : Int32) (a4 : Int32) (a5 : Int32) (a6 : Int32) (a13 : Int32) (s0 : Int32) (s1 : Int32) (γ : St) (H : Heap) (locs : List Loc) (ls : Array Slot) (cells slots : Nat), lv_has ls 21 [(0, .ref b), (2, .ref (kA κ 7 0)), (3, .int a3), (4, .int a4), (5, .int a5), (6, .int a6), (13, .int a13)] → HE κ γ H → va_S (AA κ) s.heap H locs → cells + (5073 + 2541 * k91) ≤ 239061 → slots + (49708 + 24928 * k91) ≤ 2388772 → x_LB_303 (x_LB_91 xs Ln k91) xs Ln a3 a4 a5 a6 a13 s0 s1 γ = res → W p l e room_1 s m #[Value.ref b] below meth c H locs cells slots (lw_Z below #[Value.ref b] s) (F0 m 303 ls [.int s0, .int s1]) := by
        intro a3 a4 a5 a6 a13 s0 s1 γ H locs ls cells slots hl hH hS hc1 hc2 hq
        refine lv_icmp_eq (tgt := 308) hx hb dL_law_303 (by decide) (fun c470 => ?_) (fun c470 => ?_)
        · have hq := ifpe hq c470
          refine lv_iload hx hb dL_law_308 (lv_at hl 3 rfl) ?_
          refine lv_iload hx hb dL_law_310 (lv_at hl 6 rfl) ?_
          refine lv_iconst (v := 1) hx hb dL_law_312 (by decide) ?_
          refine lv_icmp_le (tgt := 327) hx hb dL_law_313 (by decide) (fun c471 => ?_) (fun c471 => ?_)
          · have hq := ifpe hq c471
            exact b_327 a3 a5 a6 a4 γ _ _ _ _ _ (lv_sub hl [0, 1, 2, 4, 5] rfl) hH hS (by omega) (by omega) hq
          · have hq := ifne hq c471
            refine lv_iload hx hb dL_law_316 (lv_at hl 3 rfl) ?_
            refine lv_bipush (v := 6) hx hb dL_law_318 (by decide) ?_
            refine lv_icmp_ge (tgt := 327) hx hb dL_law_320 (by decide) (fun c472 => ?_) (fun c472 => ?_)
            · have hq := ifpe hq c472
              exact b_327 a3 a5 a6 a4 γ _ _ _ _ _ (lv_sub hl [0, 1, 2, 4, 5] rfl) hH hS (by omega) (by omega) hq
            · have hq := ifne hq c472
              refine lv_iconst (v := 1) hx hb dL_law_323 (by decide) ?_
              refine lv_goto (tgt := 328) hx hb dL_law_324 (by decide) ?_
              exact b_328 a3 a5 a6 1 a4 γ _ _ _ _ _ (lv_sub hl [0, 1, 2, 4, 5] rfl) hH hS (by omega) (by omega) hq
        · have hq := ifne hq c470
          refine lv_iconst (v := 0) hx hb dL_law_306 (by decide) ?_
          subst hq
          exact absurd (show (0 : Int32) = 1 from hv) (by decide)
      have b_278 : ∀ (a3 : Int32) (a4 : Int32) (a5 : Int32) (a6 : Int32) (a13 : Int32) (s0 : Int32) (γ : St) (H : Heap) (locs : List Loc) (ls : Array Slot) (cells slots : Nat), lv_has ls 21 [(0, .ref b), (2, .ref (kA κ 7 0)), (3, .int a3), (4, .int a4), (5, .int a5), (6, .int a6), (13, .int a13)] → HE κ γ H → va_S (AA κ) s.heap H locs → cells + (5073 + 2541 * k91) ≤ 239061 → slots + (49708 + 24928 * k91) ≤ 2388772 → x_LB_278 (x_LB_91 xs Ln k91) xs Ln a3 a4 a5 a6 a13 s0 γ = res → W p l e room_1 s m #[Value.ref b] below meth c H locs cells slots (lw_Z below #[Value.ref b] s) (F0 m 278 ls [.int s0]) := by
        intro a3 a4 a5 a6 a13 s0 γ H locs ls cells slots hl hH hS hc1 hc2 hq
        refine lv_iload hx hb dL_law_278 (lv_at hl 6 rfl) ?_
        refine lv_iconst (v := 2) hx hb dL_law_280 (by decide) ?_
        refine lv_icmp_ge (tgt := 289) hx hb dL_law_281 (by decide) (fun c473 => ?_) (fun c473 => ?_)
        · have hq := ifpe hq c473
          refine lv_iload hx hb dL_law_289 (lv_at hl 3 rfl) ?_
          refine lv_bipush (v := 6) hx hb dL_law_291 (by decide) ?_
          refine lv_icmp_ge (tgt := 301) hx hb dL_law_293 (by decide) (fun c474 => ?_) (fun c474 => ?_)
          · have hq := ifpe hq c474
            refine lv_bipush (v := (-73)) hx hb dL_law_301 (by decide) ?_
            exact b_303 a3 a4 a5 a6 a13 ((-73)) s0 γ _ _ _ _ _ (lv_sub hl [0, 1, 2, 3, 4, 5, 6] rfl) hH hS (by omega) (by omega) hq
          · have hq := ifne hq c474
            refine lv_iload hx hb dL_law_296 (lv_at hl 3 rfl) ?_
            refine lv_goto (tgt := 303) hx hb dL_law_298 (by decide) ?_
            exact b_303 a3 a4 a5 a6 a13 a4 s0 γ _ _ _ _ _ (lv_sub hl [0, 1, 2, 3, 4, 5, 6] rfl) hH hS (by omega) (by omega) hq
        · have hq := ifne hq c473
          refine lv_bipush (v := (-72)) hx hb dL_law_284 (by decide) ?_
          refine lv_goto (tgt := 303) hx hb dL_law_286 (by decide) ?_
          exact b_303 a3 a4 a5 a6 a13 ((-72)) s0 γ _ _ _ _ _ (lv_sub hl [0, 1, 2, 3, 4, 5, 6] rfl) hH hS (by omega) (by omega) hq
      have b_242 : ∀ (k242 : Nat) (a3 : Int32) (a4 : Int32) (a5 : Int32) (a6 : Int32) (a12 : Int32) (a13 : Int32) (a14 : Int32) (γ : St) (H : Heap) (locs : List Loc) (ls : Array Slot) (cells slots : Nat), lv_has ls 21 [(0, .ref b), (2, .ref (kA κ 7 0)), (3, .int a3), (4, .int a4), (5, .int a5), (6, .int a6), (12, .int a12), (13, .int a13), (14, .int a14)] → HE κ γ H → va_S (AA κ) s.heap H locs → cells + (5076 + 2541 * k91) ≤ 239061 → slots + (49773 + 24928 * k91) ≤ 2388772 → x_LB_242 (x_LB_91 xs Ln k91) xs Ln k242 a3 a4 a5 a6 a12 a13 a14 γ = res → W p l e room_1 s m #[Value.ref b] below meth c H locs cells slots (lw_Z below #[Value.ref b] s) (F0 m 242 ls []) := by
        intro k242
        induction k242 with
        | zero =>
          intro a3 a4 a5 a6 a12 a13 a14 γ H locs ls cells slots hl hH hS hc1 hc2 hq
          exact flag_bad hq hk
        | succ k242 ih_242 =>
          intro a3 a4 a5 a6 a12 a13 a14 γ H locs ls cells slots hl hH hS hc1 hc2 hq
          refine lv_iload hx hb dL_law_242 (lv_at hl 8 rfl) ?_
          refine lv_iload_n hx hb dL_law_244 rfl (lv_at hl 2 rfl) ?_
          refine lv_icmp_ge (tgt := 266) hx hb dL_law_245 (by decide) (fun c475 => ?_) (fun c475 => ?_)
          · have hq := ifpe hq c475
            refine lv_aload_n hx hb dL_law_266 rfl (lv_at hl 1 rfl) ?_
            refine lv_bipush (v := 9) hx hb dL_law_267 (by decide) ?_
            refine lv_iload hx hb dL_law_269 (lv_at hl 6 rfl) ?_
            refine lv_iconst (v := 0) hx hb dL_law_271 (by decide) ?_
            refine lv_iconst (v := 0) hx hb dL_law_272 (by decide) ?_
            refine lv_iconst (v := 0) hx hb dL_law_273 (by decide) ?_
            refine lv_iconst (v := 0) hx hb dL_law_274 (by decide) ?_
            refine e_callW (rest := []) hC hl hH hS (c_L_call l hfl κ γ 9 a12 0 0 0 0) tw_430 tw_431 tw_37 tw_432 hd_L_call ⟨Nat.le_of_ble_eq_true rfl, Nat.le_of_ble_eq_true rfl⟩ rfl rfl rfl rfl (Nat.le_of_ble_eq_true rfl) dL_law_275 ⟨by show _ ≤ 600086; omega, by show _ ≤ 7301442; omega⟩ rfl (fun H locs hH hS => ?_)
            exact b_278 a3 a4 a5 a6 a13 ((x_L_call 9 a12 0 0 0 0 γ).1) (x_L_call 9 a12 0 0 0 0 γ).2 _ _ _ _ _ (lv_sub hl [0, 1, 2, 3, 4, 5, 7] rfl) hH hS (by omega) (by omega) hq
          · have hq := ifne hq c475
            refine lv_iload hx hb dL_law_248 (lv_at hl 7 rfl) ?_
            refine lv_iload hx hb dL_law_250 (lv_at hl 6 rfl) ?_
            refine lv_iload hx hb dL_law_252 (lv_at hl 8 rfl) ?_
            refine lv_ishr hx hb dL_law_254 ?_
            refine lv_iconst (v := 1) hx hb dL_law_255 (by decide) ?_
            refine lv_iand hx hb dL_law_256 ?_
            refine lv_iadd hx hb dL_law_257 ?_
            refine lv_istore (lv' := [(13, .int (a13 + ((a12 >>> (a14 &&& 31)) &&& 1))), (0, .ref b), (2, .ref (kA κ 7 0)), (3, .int a3), (4, .int a4), (5, .int a5), (6, .int a6), (12, .int a12), (14, .int a14)]) hx hb dL_law_258 hl (by decide) rfl (fun ls hl => ?_)
            refine lv_iinc (v := a14 + 1) (lv' := [(14, .int (a14 + 1)), (13, .int (a13 + ((a12 >>> (a14 &&& 31)) &&& 1))), (0, .ref b), (2, .ref (kA κ 7 0)), (3, .int a3), (4, .int a4), (5, .int a5), (6, .int a6), (12, .int a12)]) hx hb dL_law_260 hl (k := 8) rfl rfl (by decide) rfl (fun ls hl => ?_)
            refine lv_goto (tgt := 242) hx hb dL_law_263 (by decide) ?_
            exact ih_242 a3 a4 a5 a6 a12 (a13 + ((a12 >>> (a14 &&& 31)) &&& 1)) (a14 + 1) γ _ _ _ _ _ (lv_sub hl [2, 3, 4, 5, 6, 7, 8, 1, 0] rfl) hH hS (by omega) (by omega) hq
      have b_166 : ∀ (a3 : Int32) (a4 : Int32) (a5 : Int32) (a6 : Int32) (a8 : Int32) (a9 : Int32) (a10 : Int32) (s0 : Int32) (γ : St) (H : Heap) (locs : List Loc) (ls : Array Slot) (cells slots : Nat), lv_has ls 21 [(0, .ref b), (2, .ref (kA κ 7 0)), (3, .int a3), (4, .int a4), (5, .int a5), (6, .int a6), (8, .int a8), (9, .int a9), (10, .int a10)] → HE κ γ H → va_S (AA κ) s.heap H locs → cells + (5081 + 2541 * k91) ≤ 239061 → slots + (49850 + 24928 * k91) ≤ 2388772 → x_LB_166 (x_LB_91 xs Ln k91) xs Ln a3 a4 a5 a6 a8 a9 a10 s0 γ = res → W p l e room_1 s m #[Value.ref b] below meth c H locs cells slots (lw_Z below #[Value.ref b] s) (F0 m 166 ls [.int s0]) := by
        intro a3 a4 a5 a6 a8 a9 a10 s0 γ H locs ls cells slots hl hH hS hc1 hc2 hq
        refine lv_istore (lv' := [(11, .int s0), (0, .ref b), (2, .ref (kA κ 7 0)), (3, .int a3), (4, .int a4), (5, .int a5), (6, .int a6), (8, .int a8), (9, .int a9), (10, .int a10)]) hx hb dL_law_166 hl (by decide) rfl (fun ls hl => ?_)
        refine lv_iload hx hb dL_law_168 (lv_at hl 7 rfl) ?_
        refine lv_if_eq (tgt := 178) hx hb dL_law_170 (by decide) (fun c476 => ?_) (fun c476 => ?_)
        · have hq := ifpe hq c476
          exact b_178 a3 a4 a5 a6 γ _ _ _ _ _ (lv_sub hl [1, 2, 3, 4, 5, 6] rfl) hH hS (by omega) (by omega) hq
        · have hq := ifne hq c476
          refine lv_iload_n hx hb dL_law_173 rfl (lv_at hl 3 rfl) ?_
          refine lv_iconst (v := 2) hx hb dL_law_174 (by decide) ?_
          refine lv_icmp_ge (tgt := 222) hx hb dL_law_175 (by decide) (fun c477 => ?_) (fun c477 => ?_)
          · have hq := ifpe hq c477
            refine lv_iload hx hb dL_law_222 (lv_at hl 7 rfl) ?_
            refine lv_iconst (v := 3) hx hb dL_law_224 (by decide) ?_
            refine lv_icmp_ge (tgt := 334) hx hb dL_law_225 (by decide) (fun c478 => ?_) (fun c478 => ?_)
            · have hq := ifpe hq c478
              refine lv_iload hx hb dL_law_334 (lv_at hl 7 rfl) ?_
              refine lv_bipush (v := 6) hx hb dL_law_336 (by decide) ?_
              refine lv_icmp_ge (tgt := 436) hx hb dL_law_338 (by decide) (fun c479 => ?_) (fun c479 => ?_)
              · have hq := ifpe hq c479
                refine lv_iload hx hb dL_law_436 (lv_at hl 7 rfl) ?_
                refine lv_bipush (v := 11) hx hb dL_law_438 (by decide) ?_
                refine lv_icmp_ge (tgt := 549) hx hb dL_law_440 (by decide) (fun c480 => ?_) (fun c480 => ?_)
                · have hq := ifpe hq c480
                  refine lv_iload hx hb dL_law_549 (lv_at hl 7 rfl) ?_
                  refine lv_bipush (v := 13) hx hb dL_law_551 (by decide) ?_
                  refine lv_icmp_ge (tgt := 692) hx hb dL_law_553 (by decide) (fun c481 => ?_) (fun c481 => ?_)
                  · have hq := ifpe hq c481
                    refine lv_iload hx hb dL_law_692 (lv_at hl 7 rfl) ?_
                    refine lv_bipush (v := 13) hx hb dL_law_694 (by decide) ?_
                    refine lv_icmp_ne (tgt := 811) hx hb dL_law_696 (by decide) (fun c482 => ?_) (fun c482 => ?_)
                    · have hq := ifne hq c482
                      refine lv_iload hx hb dL_law_811 (lv_at hl 7 rfl) ?_
                      refine lv_bipush (v := 14) hx hb dL_law_813 (by decide) ?_
                      refine lv_icmp_ne (tgt := 891) hx hb dL_law_815 (by decide) (fun c483 => ?_) (fun c483 => ?_)
                      · have hq := ifne hq c483
                        refine lv_iload hx hb dL_law_891 (lv_at hl 4 rfl) ?_
                        refine lv_if_le (tgt := 979) hx hb dL_law_893 (by decide) (fun c484 => ?_) (fun c484 => ?_)
                        · have hq := ifpe hq c484
                          exact b_979 a3 a4 a5 a6 γ _ _ _ _ _ (lv_sub hl [1, 2, 3, 4, 5, 6] rfl) hH hS (by omega) (by omega) hq
                        · have hq := ifne hq c484
                          refine lv_iload hx hb dL_law_896 (lv_at hl 8 rfl) ?_
                          refine lv_iload hx hb dL_law_898 (lv_at hl 4 rfl) ?_
                          by_cases hn485 : a4 = 0
                          · exact flag_bad (ifpe hq hn485) hk
                          have hq := ifne hq hn485
                          refine lv_irem hx hb dL_law_900 hn485 ?_
                          refine lv_istore (lv' := [(12, .int (a9 - a9 / a4 * a4)), (11, .int s0), (0, .ref b), (2, .ref (kA κ 7 0)), (3, .int a3), (4, .int a4), (5, .int a5), (6, .int a6), (8, .int a8), (9, .int a9), (10, .int a10)]) hx hb dL_law_901 hl (by decide) rfl (fun ls hl => ?_)
                          refine lv_aload_n hx hb dL_law_903 rfl (lv_at hl 3 rfl) ?_
                          refine lv_bipush (v := 11) hx hb dL_law_904 (by decide) ?_
                          refine lv_iload hx hb dL_law_906 (lv_at hl 0 rfl) ?_
                          refine lv_iconst (v := 0) hx hb dL_law_908 (by decide) ?_
                          refine lv_iconst (v := 0) hx hb dL_law_909 (by decide) ?_
                          refine lv_iconst (v := 0) hx hb dL_law_910 (by decide) ?_
                          refine lv_iconst (v := 0) hx hb dL_law_911 (by decide) ?_
                          refine e_callW (rest := []) hC hl hH hS (c_L_call l hfl κ γ 11 (a9 - a9 / a4 * a4) 0 0 0 0) tw_430 tw_431 tw_37 tw_432 hd_L_call ⟨Nat.le_of_ble_eq_true rfl, Nat.le_of_ble_eq_true rfl⟩ rfl rfl rfl rfl (Nat.le_of_ble_eq_true rfl) dL_law_912 ⟨by show _ ≤ 600086; omega, by show _ ≤ 7301442; omega⟩ rfl (fun H locs hH hS => ?_)
                          exact b_915 a3 a4 a5 a6 (a9 - a9 / a4 * a4) ((x_L_call 11 (a9 - a9 / a4 * a4) 0 0 0 0 γ).1) (x_L_call 11 (a9 - a9 / a4 * a4) 0 0 0 0 γ).2 _ _ _ _ _ (lv_sub hl [2, 3, 4, 5, 6, 7, 0] rfl) hH hS (by omega) (by omega) hq
                      · have hq := ifpe hq c483
                        refine lv_iload hx hb dL_law_818 (lv_at hl 4 rfl) ?_
                        refine lv_if_le (tgt := 979) hx hb dL_law_820 (by decide) (fun c486 => ?_) (fun c486 => ?_)
                        · have hq := ifpe hq c486
                          exact b_979 a3 a4 a5 a6 γ _ _ _ _ _ (lv_sub hl [1, 2, 3, 4, 5, 6] rfl) hH hS (by omega) (by omega) hq
                        · have hq := ifne hq c486
                          refine lv_iload hx hb dL_law_823 (lv_at hl 8 rfl) ?_
                          refine lv_iload hx hb dL_law_825 (lv_at hl 4 rfl) ?_
                          by_cases hn487 : a4 = 0
                          · exact flag_bad (ifpe hq hn487) hk
                          have hq := ifne hq hn487
                          refine lv_irem hx hb dL_law_827 hn487 ?_
                          refine lv_istore (lv' := [(12, .int (a9 - a9 / a4 * a4)), (11, .int s0), (0, .ref b), (2, .ref (kA κ 7 0)), (3, .int a3), (4, .int a4), (5, .int a5), (6, .int a6), (8, .int a8), (9, .int a9), (10, .int a10)]) hx hb dL_law_828 hl (by decide) rfl (fun ls hl => ?_)
                          refine lv_aload_n hx hb dL_law_830 rfl (lv_at hl 3 rfl) ?_
                          refine lv_bipush (v := 10) hx hb dL_law_831 (by decide) ?_
                          refine lv_iload hx hb dL_law_833 (lv_at hl 0 rfl) ?_
                          refine lv_iload hx hb dL_law_835 (lv_at hl 10 rfl) ?_
                          refine lv_iload_n hx hb dL_law_837 rfl (lv_at hl 4 rfl) ?_
                          by_cases hn488 : a3 = 0
                          · exact flag_bad (ifpe hq hn488) hk
                          have hq := ifne hq hn488
                          refine lv_irem hx hb dL_law_838 hn488 ?_
                          refine lv_iconst (v := 0) hx hb dL_law_839 (by decide) ?_
                          refine lv_iconst (v := 0) hx hb dL_law_840 (by decide) ?_
                          refine lv_iconst (v := 0) hx hb dL_law_841 (by decide) ?_
                          refine e_callW (rest := []) hC hl hH hS (c_L_call l hfl κ γ 10 (a9 - a9 / a4 * a4) (a10 - a10 / a3 * a3) 0 0 0) tw_430 tw_431 tw_37 tw_432 hd_L_call ⟨Nat.le_of_ble_eq_true rfl, Nat.le_of_ble_eq_true rfl⟩ rfl rfl rfl rfl (Nat.le_of_ble_eq_true rfl) dL_law_842 ⟨by show _ ≤ 600086; omega, by show _ ≤ 7301442; omega⟩ rfl (fun H locs hH hS => ?_)
                          exact b_845 a3 a4 a5 a6 a10 (a9 - a9 / a4 * a4) ((x_L_call 10 (a9 - a9 / a4 * a4) (a10 - a10 / a3 * a3) 0 0 0 γ).1) (x_L_call 10 (a9 - a9 / a4 * a4) (a10 - a10 / a3 * a3) 0 0 0 γ).2 _ _ _ _ _ (lv_sub hl [2, 3, 4, 5, 6, 7, 10, 0] rfl) hH hS (by omega) (by omega) hq
                    · have hq := ifpe hq c482
                      refine lv_iload hx hb dL_law_699 (lv_at hl 8 rfl) ?_
                      refine lv_iconst (v := 3) hx hb dL_law_701 (by decide) ?_
                      refine lv_irem hx hb dL_law_702 (by decide) ?_
                      refine lv_if_ne (tgt := 727) hx hb dL_law_703 (by decide) (fun c489 => ?_) (fun c489 => ?_)
                      · have hq := ifne hq c489
                        refine lv_iload hx hb dL_law_727 (lv_at hl 8 rfl) ?_
                        refine lv_iconst (v := 3) hx hb dL_law_729 (by decide) ?_
                        refine lv_irem hx hb dL_law_730 (by decide) ?_
                        refine lv_iconst (v := 1) hx hb dL_law_731 (by decide) ?_
                        refine lv_icmp_ne (tgt := 755) hx hb dL_law_732 (by decide) (fun c490 => ?_) (fun c490 => ?_)
                        · have hq := ifne hq c490
                          refine lv_iload hx hb dL_law_755 (lv_at hl 9 rfl) ?_
                          refine lv_iconst (v := 4) hx hb dL_law_757 (by decide) ?_
                          refine lv_irem hx hb dL_law_758 (by decide) ?_
                          refine lv_if_ne (tgt := 776) hx hb dL_law_759 (by decide) (fun c491 => ?_) (fun c491 => ?_)
                          · have hq := ifne hq c491
                            refine lv_iconst (v := 0) hx hb dL_law_776 (by decide) ?_
                            exact b_777 a3 a4 a5 a6 s0 0 γ _ _ _ _ _ (lv_sub hl [1, 2, 3, 4, 5, 6, 0] rfl) hH hS (by omega) (by omega) hq
                          · have hq := ifpe hq c491
                            refine lv_aload_n hx hb dL_law_762 rfl (lv_at hl 2 rfl) ?_
                            refine lv_bipush (v := 7) hx hb dL_law_763 (by decide) ?_
                            refine lv_iconst (v := 0) hx hb dL_law_765 (by decide) ?_
                            refine lv_iconst (v := 0) hx hb dL_law_766 (by decide) ?_
                            refine lv_iconst (v := 0) hx hb dL_law_767 (by decide) ?_
                            refine lv_iconst (v := 0) hx hb dL_law_768 (by decide) ?_
                            refine lv_iconst (v := 0) hx hb dL_law_769 (by decide) ?_
                            refine e_callW (rest := []) hC hl hH hS (c_L_call l hfl κ γ 7 0 0 0 0 0) tw_430 tw_431 tw_37 tw_432 hd_L_call ⟨Nat.le_of_ble_eq_true rfl, Nat.le_of_ble_eq_true rfl⟩ rfl rfl rfl rfl (Nat.le_of_ble_eq_true rfl) dL_law_770 ⟨by show _ ≤ 600086; omega, by show _ ≤ 7301442; omega⟩ rfl (fun H locs hH hS => ?_)
                            exact b_773 a3 a4 a5 a6 s0 ((x_L_call 7 0 0 0 0 0 γ).1) (x_L_call 7 0 0 0 0 0 γ).2 _ _ _ _ _ (lv_sub hl [1, 2, 3, 4, 5, 6, 0] rfl) hH hS (by omega) (by omega) hq
                        · have hq := ifpe hq c490
                          refine lv_aload_n hx hb dL_law_735 rfl (lv_at hl 2 rfl) ?_
                          refine lv_bipush (v := 6) hx hb dL_law_736 (by decide) ?_
                          refine lv_iconst (v := 1) hx hb dL_law_738 (by decide) ?_
                          refine lv_iload hx hb dL_law_739 (lv_at hl 9 rfl) ?_
                          refine lv_bipush (v := 90) hx hb dL_law_741 (by decide) ?_
                          refine lv_irem hx hb dL_law_743 (by decide) ?_
                          refine lv_iadd hx hb dL_law_744 ?_
                          refine lv_iconst (v := 0) hx hb dL_law_745 (by decide) ?_
                          refine lv_iconst (v := 0) hx hb dL_law_746 (by decide) ?_
                          refine lv_iconst (v := 0) hx hb dL_law_747 (by decide) ?_
                          refine lv_iconst (v := 0) hx hb dL_law_748 (by decide) ?_
                          refine e_callW (rest := []) hC hl hH hS (c_L_call l hfl κ γ 6 (1 + (a10 - a10 / 90 * 90)) 0 0 0 0) tw_430 tw_431 tw_37 tw_432 hd_L_call ⟨Nat.le_of_ble_eq_true rfl, Nat.le_of_ble_eq_true rfl⟩ rfl rfl rfl rfl (Nat.le_of_ble_eq_true rfl) dL_law_749 ⟨by show _ ≤ 600086; omega, by show _ ≤ 7301442; omega⟩ rfl (fun H locs hH hS => ?_)
                          exact b_752 a3 a4 a5 a6 s0 ((x_L_call 6 (1 + (a10 - a10 / 90 * 90)) 0 0 0 0 γ).1) (x_L_call 6 (1 + (a10 - a10 / 90 * 90)) 0 0 0 0 γ).2 _ _ _ _ _ (lv_sub hl [1, 2, 3, 4, 5, 6, 0] rfl) hH hS (by omega) (by omega) hq
                      · have hq := ifpe hq c489
                        refine lv_aload_n hx hb dL_law_706 rfl (lv_at hl 2 rfl) ?_
                        refine lv_iconst (v := 5) hx hb dL_law_707 (by decide) ?_
                        refine lv_iload hx hb dL_law_708 (lv_at hl 8 rfl) ?_
                        refine lv_iconst (v := 2) hx hb dL_law_710 (by decide) ?_
                        refine lv_irem hx hb dL_law_711 (by decide) ?_
                        refine lv_iconst (v := 1) hx hb dL_law_712 (by decide) ?_
                        refine lv_iload hx hb dL_law_713 (lv_at hl 9 rfl) ?_
                        refine lv_iconst (v := 3) hx hb dL_law_715 (by decide) ?_
                        refine lv_irem hx hb dL_law_716 (by decide) ?_
                        refine lv_iadd hx hb dL_law_717 ?_
                        refine lv_iconst (v := 0) hx hb dL_law_718 (by decide) ?_
                        refine lv_iconst (v := 0) hx hb dL_law_719 (by decide) ?_
                        refine lv_iconst (v := 0) hx hb dL_law_720 (by decide) ?_
                        refine e_callW (rest := []) hC hl hH hS (c_L_call l hfl κ γ 5 (a9 - a9 / 2 * 2) (1 + (a10 - a10 / 3 * 3)) 0 0 0) tw_430 tw_431 tw_37 tw_432 hd_L_call ⟨Nat.le_of_ble_eq_true rfl, Nat.le_of_ble_eq_true rfl⟩ rfl rfl rfl rfl (Nat.le_of_ble_eq_true rfl) dL_law_721 ⟨by show _ ≤ 600086; omega, by show _ ≤ 7301442; omega⟩ rfl (fun H locs hH hS => ?_)
                        exact b_724 a3 a4 a5 a6 s0 ((x_L_call 5 (a9 - a9 / 2 * 2) (1 + (a10 - a10 / 3 * 3)) 0 0 0 γ).1) (x_L_call 5 (a9 - a9 / 2 * 2) (1 + (a10 - a10 / 3 * 3)) 0 0 0 γ).2 _ _ _ _ _ (lv_sub hl [1, 2, 3, 4, 5, 6, 0] rfl) hH hS (by omega) (by omega) hq
                  · have hq := ifne hq c481
                    refine lv_iload hx hb dL_law_556 (lv_at hl 0 rfl) ?_
                    refine lv_if_eq (tgt := 573) hx hb dL_law_558 (by decide) (fun c492 => ?_) (fun c492 => ?_)
                    · have hq := ifpe hq c492
                      refine lv_iconst (v := 0) hx hb dL_law_573 (by decide) ?_
                      exact b_574 a3 a4 a5 a6 s0 0 γ _ _ _ _ _ (lv_sub hl [1, 2, 3, 4, 5, 6, 0] rfl) hH hS (by omega) (by omega) hq
                    · have hq := ifne hq c492
                      refine lv_aload_n hx hb dL_law_561 rfl (lv_at hl 2 rfl) ?_
                      refine lv_iload hx hb dL_law_562 (lv_at hl 5 rfl) ?_
                      refine lv_iconst (v := 1) hx hb dL_law_564 (by decide) ?_
                      refine lv_isub hx hb dL_law_565 ?_
                      refine lv_iconst (v := 0) hx hb dL_law_566 (by decide) ?_
                      refine e_xcallV (rest := []) hC hl hH hS (co_ofBout l hfl κ γ (a5 - 1) 0) tw_254 tw_255 tw_256 tw_38 tw_257 hd_X7_ofBout ⟨Nat.le_of_ble_eq_true rfl, Nat.le_of_ble_eq_true rfl⟩ rfl rfl rfl rfl (Nat.le_of_ble_eq_true rfl) dL_law_567 ⟨by show _ ≤ 600086; omega, by show _ ≤ 7301442; omega⟩ rfl (fun he493 ce q9 H locs hH hS hce hcv hcl => ?_) (fun he493 H locs hH hS => ?_)
                      · exact flag_bad (ifne hq he493) hk
                      have hq := ifpe hq he493
                      refine lv_goto (tgt := 574) hx hb dL_law_570 (by decide) ?_
                      exact b_574 a3 a4 a5 a6 s0 ((x_X7_ofBout (a5 - 1) 0 γ).2.1) (x_X7_ofBout (a5 - 1) 0 γ).2.2 _ _ _ _ _ (lv_sub hl [1, 2, 3, 4, 5, 6, 0] rfl) hH hS (by omega) (by omega) hq
                · have hq := ifne hq c480
                  refine lv_iload hx hb dL_law_443 (lv_at hl 9 rfl) ?_
                  refine lv_iconst (v := 3) hx hb dL_law_445 (by decide) ?_
                  refine lv_irem hx hb dL_law_446 (by decide) ?_
                  refine lv_if_ne (tgt := 481) hx hb dL_law_447 (by decide) (fun c494 => ?_) (fun c494 => ?_)
                  · have hq := ifne hq c494
                    refine lv_aload_n hx hb dL_law_481 rfl (lv_at hl 2 rfl) ?_
                    refine lv_iconst (v := 2) hx hb dL_law_482 (by decide) ?_
                    refine lv_iload hx hb dL_law_483 (lv_at hl 8 rfl) ?_
                    refine lv_iconst (v := 2) hx hb dL_law_485 (by decide) ?_
                    refine lv_irem hx hb dL_law_486 (by decide) ?_
                    refine lv_iload hx hb dL_law_487 (lv_at hl 9 rfl) ?_
                    refine lv_bipush (v := 7) hx hb dL_law_489 (by decide) ?_
                    refine lv_irem hx hb dL_law_491 (by decide) ?_
                    refine lv_iload hx hb dL_law_492 (lv_at hl 6 rfl) ?_
                    refine lv_iconst (v := 5) hx hb dL_law_494 (by decide) ?_
                    refine lv_imul hx hb dL_law_495 ?_
                    refine lv_iload hx hb dL_law_496 (lv_at hl 8 rfl) ?_
                    refine lv_iconst (v := 4) hx hb dL_law_498 (by decide) ?_
                    refine lv_irem hx hb dL_law_499 (by decide) ?_
                    refine lv_iadd hx hb dL_law_500 ?_
                    refine lv_iconst (v := 0) hx hb dL_law_501 (by decide) ?_
                    refine lv_iconst (v := 0) hx hb dL_law_502 (by decide) ?_
                    refine e_callW (rest := []) hC hl hH hS (c_L_call l hfl κ γ 2 (a9 - a9 / 2 * 2) (a10 - a10 / 7 * 7) ((a6 * 5) + (a9 - a9 / 4 * 4)) 0 0) tw_430 tw_431 tw_37 tw_432 hd_L_call ⟨Nat.le_of_ble_eq_true rfl, Nat.le_of_ble_eq_true rfl⟩ rfl rfl rfl rfl (Nat.le_of_ble_eq_true rfl) dL_law_503 ⟨by show _ ≤ 600086; omega, by show _ ≤ 7301442; omega⟩ rfl (fun H locs hH hS => ?_)
                    exact b_506 a3 a4 a5 a6 s0 ((x_L_call 2 (a9 - a9 / 2 * 2) (a10 - a10 / 7 * 7) ((a6 * 5) + (a9 - a9 / 4 * 4)) 0 0 γ).1) (x_L_call 2 (a9 - a9 / 2 * 2) (a10 - a10 / 7 * 7) ((a6 * 5) + (a9 - a9 / 4 * 4)) 0 0 γ).2 _ _ _ _ _ (lv_sub hl [1, 2, 3, 4, 5, 6, 0] rfl) hH hS (by omega) (by omega) hq
                  · have hq := ifpe hq c494
                    refine lv_aload_n hx hb dL_law_450 rfl (lv_at hl 2 rfl) ?_
                    refine lv_iconst (v := 3) hx hb dL_law_451 (by decide) ?_
                    refine lv_iload hx hb dL_law_452 (lv_at hl 8 rfl) ?_
                    refine lv_iconst (v := 2) hx hb dL_law_454 (by decide) ?_
                    refine lv_irem hx hb dL_law_455 (by decide) ?_
                    refine lv_iload hx hb dL_law_456 (lv_at hl 6 rfl) ?_
                    refine lv_iconst (v := 5) hx hb dL_law_458 (by decide) ?_
                    refine lv_imul hx hb dL_law_459 ?_
                    refine lv_iload hx hb dL_law_460 (lv_at hl 8 rfl) ?_
                    refine lv_iconst (v := 4) hx hb dL_law_462 (by decide) ?_
                    refine lv_irem hx hb dL_law_463 (by decide) ?_
                    refine lv_iadd hx hb dL_law_464 ?_
                    refine lv_iload hx hb dL_law_465 (lv_at hl 9 rfl) ?_
                    refine lv_bipush (v := 60) hx hb dL_law_467 (by decide) ?_
                    refine lv_irem hx hb dL_law_469 (by decide) ?_
                    refine lv_iload hx hb dL_law_470 (lv_at hl 8 rfl) ?_
                    refine lv_iconst (v := 3) hx hb dL_law_472 (by decide) ?_
                    refine lv_irem hx hb dL_law_473 (by decide) ?_
                    refine lv_iconst (v := 0) hx hb dL_law_474 (by decide) ?_
                    refine e_callW (rest := []) hC hl hH hS (c_L_call l hfl κ γ 3 (a9 - a9 / 2 * 2) ((a6 * 5) + (a9 - a9 / 4 * 4)) (a10 - a10 / 60 * 60) (a9 - a9 / 3 * 3) 0) tw_430 tw_431 tw_37 tw_432 hd_L_call ⟨Nat.le_of_ble_eq_true rfl, Nat.le_of_ble_eq_true rfl⟩ rfl rfl rfl rfl (Nat.le_of_ble_eq_true rfl) dL_law_475 ⟨by show _ ≤ 600086; omega, by show _ ≤ 7301442; omega⟩ rfl (fun H locs hH hS => ?_)
                    exact b_478 a3 a4 a5 a6 s0 ((x_L_call 3 (a9 - a9 / 2 * 2) ((a6 * 5) + (a9 - a9 / 4 * 4)) (a10 - a10 / 60 * 60) (a9 - a9 / 3 * 3) 0 γ).1) (x_L_call 3 (a9 - a9 / 2 * 2) ((a6 * 5) + (a9 - a9 / 4 * 4)) (a10 - a10 / 60 * 60) (a9 - a9 / 3 * 3) 0 γ).2 _ _ _ _ _ (lv_sub hl [1, 2, 3, 4, 5, 6, 0] rfl) hH hS (by omega) (by omega) hq
              · have hq := ifne hq c479
                refine lv_iload hx hb dL_law_341 (lv_at hl 4 rfl) ?_
                refine lv_if_eq (tgt := 353) hx hb dL_law_343 (by decide) (fun c495 => ?_) (fun c495 => ?_)
                · have hq := ifpe hq c495
                  exact b_353 a3 a4 a5 a6 a9 a10 s0 γ _ _ _ _ _ (lv_sub hl [1, 2, 3, 4, 5, 6, 8, 9, 0] rfl) hH hS (by omega) (by omega) hq
                · have hq := ifne hq c495
                  refine lv_iload hx hb dL_law_346 (lv_at hl 8 rfl) ?_
                  refine lv_iconst (v := 4) hx hb dL_law_348 (by decide) ?_
                  refine lv_irem hx hb dL_law_349 (by decide) ?_
                  refine lv_if_ne (tgt := 357) hx hb dL_law_350 (by decide) (fun c496 => ?_) (fun c496 => ?_)
                  · have hq := ifne hq c496
                    refine lv_iload hx hb dL_law_357 (lv_at hl 8 rfl) ?_
                    refine lv_iload hx hb dL_law_359 (lv_at hl 4 rfl) ?_
                    by_cases hn497 : a4 = 0
                    · exact flag_bad (ifpe hq hn497) hk
                    have hq := ifne hq hn497
                    refine lv_irem hx hb dL_law_361 hn497 ?_
                    exact b_362 a3 a4 a5 a6 a9 a10 s0 (a9 - a9 / a4 * a4) γ _ _ _ _ _ (lv_sub hl [1, 2, 3, 4, 5, 6, 8, 9, 0] rfl) hH hS (by omega) (by omega) hq
                  · have hq := ifpe hq c496
                    exact b_353 a3 a4 a5 a6 a9 a10 s0 γ _ _ _ _ _ (lv_sub hl [1, 2, 3, 4, 5, 6, 8, 9, 0] rfl) hH hS (by omega) (by omega) hq
            · have hq := ifne hq c478
              refine lv_iload hx hb dL_law_228 (lv_at hl 8 rfl) ?_
              refine lv_iconst (v := 1) hx hb dL_law_230 (by decide) ?_
              refine lv_iload_n hx hb dL_law_231 rfl (lv_at hl 3 rfl) ?_
              refine lv_ishl hx hb dL_law_232 ?_
              by_cases hn498 : (1 <<< (a3 &&& 31)) = 0
              · exact flag_bad (ifpe hq hn498) hk
              have hq := ifne hq hn498
              refine lv_irem hx hb dL_law_233 hn498 ?_
              refine lv_istore (lv' := [(12, .int (a9 - a9 / (1 <<< (a3 &&& 31)) * (1 <<< (a3 &&& 31)))), (11, .int s0), (0, .ref b), (2, .ref (kA κ 7 0)), (3, .int a3), (4, .int a4), (5, .int a5), (6, .int a6), (8, .int a8), (9, .int a9), (10, .int a10)]) hx hb dL_law_234 hl (by decide) rfl (fun ls hl => ?_)
              refine lv_iconst (v := 0) hx hb dL_law_236 (by decide) ?_
              refine lv_istore (lv' := [(13, .int 0), (12, .int (a9 - a9 / (1 <<< (a3 &&& 31)) * (1 <<< (a3 &&& 31)))), (11, .int s0), (0, .ref b), (2, .ref (kA κ 7 0)), (3, .int a3), (4, .int a4), (5, .int a5), (6, .int a6), (8, .int a8), (9, .int a9), (10, .int a10)]) hx hb dL_law_237 hl (by decide) rfl (fun ls hl => ?_)
              refine lv_iconst (v := 0) hx hb dL_law_239 (by decide) ?_
              refine lv_istore (lv' := [(14, .int 0), (13, .int 0), (12, .int (a9 - a9 / (1 <<< (a3 &&& 31)) * (1 <<< (a3 &&& 31)))), (11, .int s0), (0, .ref b), (2, .ref (kA κ 7 0)), (3, .int a3), (4, .int a4), (5, .int a5), (6, .int a6), (8, .int a8), (9, .int a9), (10, .int a10)]) hx hb dL_law_240 hl (by decide) rfl (fun ls hl => ?_)
              exact b_242 13 a3 a4 a5 a6 (a9 - a9 / (1 <<< (a3 &&& 31)) * (1 <<< (a3 &&& 31))) 0 0 γ _ _ _ _ _ (lv_sub hl [4, 5, 6, 7, 8, 9, 2, 1, 0] rfl) hH hS (by omega) (by omega) hq
          · have hq := ifne hq c477
            exact b_178 a3 a4 a5 a6 γ _ _ _ _ _ (lv_sub hl [1, 2, 3, 4, 5, 6] rfl) hH hS (by omega) (by omega) hq
      have b_165 : ∀ (a3 : Int32) (a4 : Int32) (a5 : Int32) (a6 : Int32) (a8 : Int32) (a9 : Int32) (a10 : Int32) (γ : St) (H : Heap) (locs : List Loc) (ls : Array Slot) (cells slots : Nat), lv_has ls 21 [(0, .ref b), (2, .ref (kA κ 7 0)), (3, .int a3), (4, .int a4), (5, .int a5), (6, .int a6), (8, .int a8), (9, .int a9), (10, .int a10)] → HE κ γ H → va_S (AA κ) s.heap H locs → cells + (5081 + 2541 * k91) ≤ 239061 → slots + (49850 + 24928 * k91) ≤ 2388772 → x_LB_165 (x_LB_91 xs Ln k91) xs Ln a3 a4 a5 a6 a8 a9 a10 γ = res → W p l e room_1 s m #[Value.ref b] below meth c H locs cells slots (lw_Z below #[Value.ref b] s) (F0 m 165 ls []) := by
        intro a3 a4 a5 a6 a8 a9 a10 γ H locs ls cells slots hl hH hS hc1 hc2 hq
        refine lv_iconst (v := 0) hx hb dL_law_165 (by decide) ?_
        exact b_166 a3 a4 a5 a6 a8 a9 a10 0 γ _ _ _ _ _ (lv_sub hl [0, 1, 2, 3, 4, 5, 6, 7, 8] rfl) hH hS (by omega) (by omega) hq
      have b_121 : ∀ (a3 : Int32) (a4 : Int32) (a5 : Int32) (a6 : Int32) (s0 : Int32) (γ : St) (H : Heap) (locs : List Loc) (ls : Array Slot) (cells slots : Nat), lv_has ls 21 [(0, .ref b), (2, .ref (kA κ 7 0)), (3, .int a3), (4, .int a4), (5, .int a5), (6, .int a6)] → HE κ γ H → va_S (AA κ) s.heap H locs → cells + (5082 + 2541 * k91) ≤ 239061 → slots + (49856 + 24928 * k91) ≤ 2388772 → x_LB_121 (x_LB_91 xs Ln k91) xs Ln a3 a4 a5 a6 s0 γ = res → W p l e room_1 s m #[Value.ref b] below meth c H locs cells slots (lw_Z below #[Value.ref b] s) (F0 m 121 ls [.int s0]) := by
        intro a3 a4 a5 a6 s0 γ H locs ls cells slots hl hH hS hc1 hc2 hq
        refine lv_istore (lv' := [(7, .int s0), (0, .ref b), (2, .ref (kA κ 7 0)), (3, .int a3), (4, .int a4), (5, .int a5), (6, .int a6)]) hx hb dL_law_121 hl (by decide) rfl (fun ls hl => ?_)
        refine lv_iload hx hb dL_law_123 (lv_at hl 0 rfl) ?_
        refine lv_bipush (v := 16) hx hb dL_law_125 (by decide) ?_
        refine lv_irem hx hb dL_law_127 (by decide) ?_
        refine lv_istore (lv' := [(8, .int (s0 - s0 / 16 * 16)), (7, .int s0), (0, .ref b), (2, .ref (kA κ 7 0)), (3, .int a3), (4, .int a4), (5, .int a5), (6, .int a6)]) hx hb dL_law_128 hl (by decide) rfl (fun ls hl => ?_)
        refine lv_iload hx hb dL_law_130 (lv_at hl 1 rfl) ?_
        refine lv_bipush (v := 16) hx hb dL_law_132 (by decide) ?_
        refine lv_idiv hx hb dL_law_134 (by decide) ?_
        refine lv_istore (lv' := [(9, .int (s0 / 16)), (8, .int (s0 - s0 / 16 * 16)), (7, .int s0), (0, .ref b), (2, .ref (kA κ 7 0)), (3, .int a3), (4, .int a4), (5, .int a5), (6, .int a6)]) hx hb dL_law_135 hl (by decide) rfl (fun ls hl => ?_)
        refine lv_iload hx hb dL_law_137 (lv_at hl 0 rfl) ?_
        refine lv_bipush (v := 20) hx hb dL_law_139 (by decide) ?_
        refine lv_idiv hx hb dL_law_141 (by decide) ?_
        refine lv_istore (lv' := [(10, .int ((s0 / 16) / 20)), (9, .int (s0 / 16)), (8, .int (s0 - s0 / 16 * 16)), (7, .int s0), (0, .ref b), (2, .ref (kA κ 7 0)), (3, .int a3), (4, .int a4), (5, .int a5), (6, .int a6)]) hx hb dL_law_142 hl (by decide) rfl (fun ls hl => ?_)
        refine lv_iload hx hb dL_law_144 (lv_at hl 8 rfl) ?_
        refine lv_if_le (tgt := 165) hx hb dL_law_146 (by decide) (fun c499 => ?_) (fun c499 => ?_)
        · have hq := ifpe hq c499
          exact b_165 a3 a4 a5 a6 (s0 - s0 / 16 * 16) (s0 / 16) ((s0 / 16) / 20) γ _ _ _ _ _ (lv_sub hl [4, 5, 6, 7, 8, 9, 2, 1, 0] rfl) hH hS (by omega) (by omega) hq
        · have hq := ifne hq c499
          refine lv_aload_n hx hb dL_law_149 rfl (lv_at hl 5 rfl) ?_
          refine lv_iload hx hb dL_law_150 (lv_at hl 8 rfl) ?_
          refine lv_iconst (v := 1) hx hb dL_law_152 (by decide) ?_
          refine lv_isub hx hb dL_law_153 ?_
          refine lv_iconst (v := 2) hx hb dL_law_154 (by decide) ?_
          refine e_xcallV (rest := []) hC hl hH hS (co_ofBout l hfl κ γ (a5 - 1) 2) tw_254 tw_255 tw_256 tw_38 tw_257 hd_X7_ofBout ⟨Nat.le_of_ble_eq_true rfl, Nat.le_of_ble_eq_true rfl⟩ rfl rfl rfl rfl (Nat.le_of_ble_eq_true rfl) dL_law_155 ⟨by show _ ≤ 600086; omega, by show _ ≤ 7301442; omega⟩ rfl (fun he500 ce q9 H locs hH hS hce hcv hcl => ?_) (fun he500 H locs hH hS => ?_)
          · exact flag_bad (ifne hq he500) hk
          have hq := ifpe hq he500
          refine lv_if_ge (tgt := 165) hx hb dL_law_158 (by decide) (fun c501 => ?_) (fun c501 => ?_)
          · have hq := ifpe hq c501
            exact b_165 a3 a4 a5 a6 (s0 - s0 / 16 * 16) (s0 / 16) ((s0 / 16) / 20) (x_X7_ofBout (a5 - 1) 2 γ).2.2 _ _ _ _ _ (lv_sub hl [4, 5, 6, 7, 8, 9, 2, 1, 0] rfl) hH hS (by omega) (by omega) hq
          · have hq := ifne hq c501
            refine lv_iconst (v := 1) hx hb dL_law_161 (by decide) ?_
            refine lv_goto (tgt := 166) hx hb dL_law_162 (by decide) ?_
            exact b_166 a3 a4 a5 a6 (s0 - s0 / 16 * 16) (s0 / 16) ((s0 / 16) / 20) 1 (x_X7_ofBout (a5 - 1) 2 γ).2.2 _ _ _ _ _ (lv_sub hl [4, 5, 6, 7, 8, 9, 2, 1, 0] rfl) hH hS (by omega) (by omega) hq
      intro a3 a4 a5 a6 γ H locs ls cells slots hl hH hS hc1 hc2 hq
      refine lv_iload hx hb dL_law_91 (lv_at hl 5 rfl) ?_
      refine lv_bipush (v := 90) hx hb dL_law_93 (by decide) ?_
      refine lv_icmp_ge (tgt := 1197) hx hb dL_law_95 (by decide) (fun c502 => ?_) (fun c502 => ?_)
      · have hq := ifpe hq c502
        refine lv_iconst (v := 1) hx hb dL_law_1197 (by decide) ?_
        subst hq
        refine va_forget (fun q hq => by rw [← hB0]; exact hS.2.2 q hq) ?_
        refine W.widen (k := 600086) (n := 7301442) (by omega) (by omega) ?_
        exact lw_ret hx hb hr hlk dL_law_1198
      · have hq := ifne hq c502
        refine lv_aload_n hx hb dL_law_98 rfl (lv_at hl 0 rfl) ?_
        refine va_slen (A := AA κ) hx hb hX hbl hbA hS dL_law_99 ?_
        refine lv_if_ne (tgt := 111) hx hb dL_law_100 (by decide) (fun c503 => ?_) (fun c503 => ?_)
        · have hq := ifne hq c503
          refine lv_aload_n hx hb dL_law_111 rfl (lv_at hl 0 rfl) ?_
          refine lv_iload hx hb dL_law_112 (lv_at hl 5 rfl) ?_
          refine lv_aload_n hx hb dL_law_114 rfl (lv_at hl 0 rfl) ?_
          refine va_slen (A := AA κ) hx hb hX hbl hbA hS dL_law_115 ?_
          by_cases hn504 : (nI Ln) = 0
          · exact flag_bad (ifpe hq hn504) hk
          have hq := ifne hq hn504
          refine lv_irem hx hb dL_law_116 hn504 ?_
          by_cases hi505 : (a6 - a6 / (nI Ln) * (nI Ln)) < 0 ∨ Ln ≤ (a6 - a6 / (nI Ln) * (nI Ln) : Int32).toNatClampNeg
          · exact flag_bad (ifpe hq hi505) hk
          have hq := ifne hq hi505
          refine va_sld (A := AA κ) hx hb hX hbl hbA hS hi505 dL_law_117 ?_
          refine lv_bipush (v := 8) hx hb dL_law_118 (by decide) ?_
          refine lv_iushr (v := ((xs ((a6 - a6 / (nI Ln) * (nI Ln) : Int32).toNatClampNeg)).toUInt32 >>> ((8 : Int32).toUInt32 &&& Int32.toUInt32 31)).toInt32) hx hb dL_law_120 rfl ?_
          exact b_121 a3 a4 a5 a6 (((xs ((a6 - a6 / (nI Ln) * (nI Ln) : Int32).toNatClampNeg)).toUInt32 >>> ((8 : Int32).toUInt32 &&& Int32.toUInt32 31)).toInt32) γ _ _ _ _ _ (lv_sub hl [0, 1, 2, 3, 4, 5] rfl) hH hS (by omega) (by omega) hq
        · have hq := ifpe hq c503
          refine lv_bipush (v := 103) hx hb dL_law_103 (by decide) ?_
          refine lv_iload hx hb dL_law_105 (lv_at hl 5 rfl) ?_
          refine lv_imul hx hb dL_law_107 ?_
          refine lv_goto (tgt := 121) hx hb dL_law_108 (by decide) ?_
          exact b_121 a3 a4 a5 a6 (103 * a6) γ _ _ _ _ _ (lv_sub hl [0, 1, 2, 3, 4, 5] rfl) hH hS (by omega) (by omega) hq
  refine lv_iconst (v := 0) hx hb dL_law_80 (by decide) ?_
  refine lv_istore_n (lv' := [(3, .int 0), (0, .ref b), (2, .ref (kA κ 7 0))]) hx hb dL_law_81 rfl hl (by decide) rfl (fun ls hl => ?_)
  refine lv_iconst (v := 0) hx hb dL_law_82 (by decide) ?_
  refine lv_istore (lv' := [(4, .int 0), (3, .int 0), (0, .ref b), (2, .ref (kA κ 7 0))]) hx hb dL_law_83 hl (by decide) rfl (fun ls hl => ?_)
  refine lv_iconst (v := 0) hx hb dL_law_85 (by decide) ?_
  refine lv_istore (lv' := [(5, .int 0), (4, .int 0), (3, .int 0), (0, .ref b), (2, .ref (kA κ 7 0))]) hx hb dL_law_86 hl (by decide) rfl (fun ls hl => ?_)
  refine lv_iconst (v := 0) hx hb dL_law_88 (by decide) ?_
  refine lv_istore (lv' := [(6, .int 0), (5, .int 0), (4, .int 0), (3, .int 0), (0, .ref b), (2, .ref (kA κ 7 0))]) hx hb dL_law_89 hl (by decide) rfl (fun ls hl => ?_)
  exact b_91 91 0 0 0 0 γ _ _ _ _ _ (lv_sub hl [4, 5, 3, 2, 1, 0] rfl) hH hS (by omega) (by omega) hq
