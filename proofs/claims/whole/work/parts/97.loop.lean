/-! THE LAW'S LOOP, out of its calls -/
def zOpV (X Y : zM → zO) (q : zSt) : Prop := ∃ q', tC q' ≤ tC q + 1 ∧ (∀ M, zQx q M → ∃ M1, X M = zV M1 ∧ zQx q' M1 ∧ ∀ i, 79 ≤ i → M1 i = M i) ∧ (∀ M, zQm q M → ∃ M1, Y M = zV M1 ∧ zQm q' M1 ∧ ∀ i, (i < 79 ∨ i = 124) → M1 i = M i)
theorem zhA : ∀ q M M', zQx q M → (∀ i, i < 79 → M' i = M i) → zQx q M' := fun q M M' h e => zQx_off h (fun i hi _ => e i hi)
theorem zhB : ∀ q M M', zQm q M → (∀ i, 79 ≤ i → i < 124 → M' i = M i) → zQm q M' := fun q M M' h e => zQm_off h (fun i h1 h2 _ => e i (by omega) h2) (fun k _ => by rw [e 79 (by omega) (by omega)])
def zC_feed : Prop := ∀ q : zSt, zok q → tC q < 600 → ∀ a b c d e : Int32, zOp 0 (F_X11_feed 0 a b c d e) (F_X12_feed 79 a b c d e) zNSE zIAE q
def zC_sea : Prop := ∀ q : zSt, zok q → tC q < 600 → ∀ a : Int32, zOp 1 (F_X11_sea 0 a) (F_X12_sea 79 a) zIAE zNSE q
def zC_fault : Prop := ∀ q : zSt, zok q → tC q < 600 → zOp 0 (F_X11_fault 0) (F_X12_fault 79) zNSE zIAE q
def zC_count : Prop := ∀ q : zSt, zok q → tC q < 600 → ∀ a : Int32, zOp 1 (F_X11_count 0 a) (F_X12_count 79 a) zNSE zIAE q
def zC_name : Prop := ∀ q : zSt, zok q → tC q < 600 → ∀ a b : Int32, zOp 1 (F_X11_name 0 a b) (F_X12_name 79 a b) zNSE zIAE q
def zC_letter : Prop := ∀ q : zSt, zok q → tC q < 600 → ∀ a b : Int32, zOp 1 (F_X11_letter 0 a b) (F_X12_letter 79 a b) zNSE zIAE q
def zC_has : Prop := ∀ q : zSt, zok q → tC q < 600 → ∀ a : Int32, zOp 1 (F_X11_has 0 a) (F_X12_has 79 a) zNSE zIAE q
def zC_debt : Prop := ∀ q : zSt, zok q → tC q < 600 → ∀ a b : Int32, zOp 2 (F_X11_debt 0 a b) (F_X12_debt 79 a b) zNSE zIAE q
def zC_may : Prop := ∀ q : zSt, zok q → tC q < 600 → ∀ a b : Int32, zOp 2 (F_X11_may 0 a b) (F_X12_may 79 a b) zNSE zIAE q
def zC_swap : Prop := ∀ q : zSt, zok q → tC q < 600 → ∀ a b : Int32, zOp 1 (F_X11_swap 0 a b) (F_X12_swap 79 a b) zNSE zIAE q
def zC_year : Prop := ∀ q : zSt, zok q → tC q < 600 → zOp 0 (F_X11_year 0) (F_X12_year 79) zNSE zIAE q
def zC_forgive : Prop := ∀ q : zSt, zok q → tC q < 600 → ∀ a b : Int32, zOp 2 (F_X11_forgive 0 a b) (F_X12_forgive 79 a b) zNSE zIAE q
def zC_undo : Prop := ∀ q : zSt, zok q → tC q < 600 → zOp 0 (F_X11_undo 0) (F_X12_undo 79) zNSE zIAE q
def zC_prefers : Prop := ∀ q : zSt, zok q → tC q < 600 → ∀ a b c : Int32, zOp 1 (F_X11_prefers 0 a b c) (F_X12_prefers 79 a b c) zNSE zIAE q
def zC_glad : Prop := ∀ q : zSt, zok q → tC q < 600 → ∀ a : Int32, zOp 1 (F_X11_glad 0 a) (F_X12_glad 79 a) zNSE zIAE q
def zC_round : Prop := ∀ q : zSt, zok q → tC q < 600 → ∀ a : Int32, zOp 1 (F_X11_round 0 a) (F_X12_round 79 a) zNSE zIAE q
def zC_leave : Prop := ∀ q : zSt, zok q → tC q < 600 → zOp 0 (F_X11_leave 0) (F_X12_leave 79) zNSE zIAE q
def zC_swaps : Prop := ∀ q : zSt, zok q → tC q < 600 → ∀ a b : Int32, zOp 2 (F_X11_swaps 0 a b) (F_X12_swaps 79 a b) zNSE zIAE q
def zC_ship : Prop := ∀ q : zSt, zok q → tC q < 600 → ∀ a b c : Int32, zOp 2 (F_X11_ship 0 a b c) (F_X12_ship 79 a b c) zNSE zIAE q
def zC_joined : Prop := ∀ q : zSt, zok q → tC q < 600 → ∀ a b c : Int32, zOp 2 (F_X11_joined 0 a b c) (F_X12_joined 79 a b c) zNSE zIAE q
def zC_inside : Prop := ∀ q : zSt, zok q → tC q < 600 → ∀ a b : Int32, zOp 1 (F_X11_inside 0 a b) (F_X12_inside 79 a b) zNSE zIAE q
def zC_shortest : Prop := ∀ q : zSt, zok q → tC q < 600 → ∀ a b : Int32, zOp 2 (F_X11_shortest 0 a b) (F_X12_shortest 79 a b) zNSE zIAE q
def zC_worn : Prop := ∀ q : zSt, zok q → tC q < 600 → ∀ a b c : Int32, zOp 2 (F_X11_worn 0 a b c) (F_X12_worn 79 a b c) zNSE zIAE q
def zC_tide : Prop := ∀ q : zSt, zok q → tC q < 600 → ∀ a : Int32, zOp 1 (F_X11_tide 0 a) (F_X12_tide 79 a) zIAE zNSE q
def zC_lies : Prop := ∀ q : zSt, zok q → tC q < 600 → ∀ a b : Int32, zOp 2 (F_X11_lies 0 a b) (F_X12_lies 79 a b) zNSE zIAE q
def zC_see : Prop := ∀ q : zSt, zok q → tC q < 600 → ∀ a b : Int32, zOp 1 (F_X11_see 0 a b) (F_X12_see 79 a b) zNSE zIAE q
def zC_forget : Prop := ∀ q : zSt, zok q → tC q < 600 → zOpV (F_X11_forget 0) (F_X12_forget 79) q
def zC_sales : Prop := ∀ q : zSt, zok q → tC q < 600 → ∀ a b : Int32, zOp 2 (F_X11_sales 0 a b) (F_X12_sales 79 a b) zNSE zIAE q
def zC_look : Prop := ∀ q : zSt, zok q → tC q < 600 → ∀ a : Int32, zOp 1 (F_X11_look 0 a) (F_X12_look 79 a) zIAE zNSE q
def zC_clerks : Prop := ∀ q : zSt, zok q → tC q < 600 → ∀ a b c : Int32, zOp 2 (F_X11_clerks 0 a b c) (F_X12_clerks 79 a b c) zNSE zIAE q
def zC_century : Prop := ∀ q : zSt, zok q → tC q < 600 → ∀ a b c : Int32, zOp 2 (F_X11_century 0 a b c) (F_X12_century 79 a b c) zNSE zIAE q
def zC_weather : Prop := ∀ q : zSt, zok q → tC q < 600 → ∀ a b c : Int32, zOp 1 (F_X11_weather 0 a b c) (F_X12_weather 79 a b c) zIAE zNSE q
def zC_owed : Prop := ∀ q : zSt, zok q → tC q < 600 → ∀ a : Int32, zOp 1 (F_X11_owed 0 a) (F_X12_owed 79 a) zNSE zIAE q
def zC_caravan : Prop := ∀ q : zSt, zok q → tC q < 600 → ∀ a : Int32, zOp 1 (F_X11_caravan 0 a) (F_X12_caravan 79 a) zNSE zIAE q
def zC_image : Prop := ∀ q : zSt, zok q → tC q < 600 → zOpV (F_X11_image 0) (F_X12_image 79) q
def zC_restore : Prop := ∀ q : zSt, zok q → tC q < 600 → zOp 0 (F_X11_restore 0) (F_X12_restore 79) zNSE zIAE q
theorem zd_feed (h : zC_feed) {q : zSt} {M : zM} {k1 bad : zM → zO} {a b c d e : Int32} (hq : tC q < 600) (ha : zQx q M) (hb : zQm q M) : ∃ (q' : zSt) (M' : zM), tC q' ≤ tC q + 1 ∧ zbI (F_X11_feed 0 a b c d e M) (fun r1 M1 => zbI (F_X12_feed 79 a b c d e M1) (fun r2 M2 => zit (r1 = r2) (k1 M2) (bad M2))) = k1 M' ∧ zQx q' M' ∧ zQm q' M' := by
  obtain ⟨q', code, r, hm, hc, hx, hy⟩ := h q (qx_o ha) hq a b c d e
  obtain rfl : code = 0 := by omega
  obtain ⟨M', e, a1, b1⟩ := zcaseD (k1 := k1) (bad := bad) zhA zhB hx hy ha hb
  exact ⟨q', M', hc, e, a1, b1⟩
theorem zd_sea (h : zC_sea) {q : zSt} {M : zM} {k1 bad : zM → zO} {a : Int32} (hq : tC q < 600) (ha : zQx q M) (hb : zQm q M) : ∃ (q' : zSt) (M' : zM), tC q' ≤ tC q + 1 ∧ zbI (F_L_sea 0 a 124 M) (fun r3 M3 => zbI (F_X12_sea 79 a M3) (fun r4 M4 => zbI (F_X12_thrown 79 M4) (fun r5 M5 => zit (r5 = r3) (zjo (fun (M6 : zM) => k1 M6) (fun (k2 : zM → zO) => zit (r3 = 0) (zck (zin 0 1) (zit ((lg_cmp (zgA M5 124 (zix 0)) r4.toInt64) = 0) (k2 M5) (bad M5))) (k2 M5))) (bad M5)))) = k1 M' ∧ zQx q' M' ∧ zQm q' M' := by
  obtain ⟨q', code, r, hm, hc, hx, hy⟩ := h q (qx_o ha) hq a
  obtain ⟨M', e, a1, b1⟩ := zcaseI (k1 := k1) (bad := bad) (bad2 := bad) (H := F_L_sea 0 a 124) zhA zhB hx hy (fun _ => rfl) (fun _ _ => rfl) (fun z => absurd z (by omega)) ha hb
  exact ⟨q', M', hc, e, a1, b1⟩
theorem zd_fault (h : zC_fault) {q : zSt} {M : zM} {k1 bad : zM → zO} (hq : tC q < 600) (ha : zQx q M) (hb : zQm q M) : ∃ (q' : zSt) (M' : zM), tC q' ≤ tC q + 1 ∧ zbI (F_X11_fault 0 M) (fun r1 M1 => zbI (F_X12_fault 79 M1) (fun r2 M2 => zit (r1 = r2) (k1 M2) (bad M2))) = k1 M' ∧ zQx q' M' ∧ zQm q' M' := by
  obtain ⟨q', code, r, hm, hc, hx, hy⟩ := h q (qx_o ha) hq
  obtain rfl : code = 0 := by omega
  obtain ⟨M', e, a1, b1⟩ := zcaseD (k1 := k1) (bad := bad) zhA zhB hx hy ha hb
  exact ⟨q', M', hc, e, a1, b1⟩
theorem zd_count (h : zC_count) {q : zSt} {M : zM} {k1 bad : zM → zO} {a : Int32} (hq : tC q < 600) (ha : zQx q M) (hb : zQm q M) : ∃ (q' : zSt) (M' : zM), tC q' ≤ tC q + 1 ∧ zbI (F_L_count 0 a 124 M) (fun r3 M3 => zbI (F_X12_count 79 a M3) (fun r4 M4 => zbI (F_X12_thrown 79 M4) (fun r5 M5 => zit (r5 = r3) (zjo (fun (M6 : zM) => k1 M6) (fun (k2 : zM → zO) => zit (r3 = 0) (zck (zin 0 1) (zit ((lg_cmp (zgA M5 124 (zix 0)) r4.toInt64) = 0) (k2 M5) (bad M5))) (k2 M5))) (bad M5)))) = k1 M' ∧ zQx q' M' ∧ zQm q' M' := by
  obtain ⟨q', code, r, hm, hc, hx, hy⟩ := h q (qx_o ha) hq a
  obtain ⟨M', e, a1, b1⟩ := zcaseI (k1 := k1) (bad := bad) (bad2 := bad) (H := F_L_count 0 a 124) zhA zhB hx hy (fun _ => rfl) (fun _ _ => rfl) (fun z => absurd z (by omega)) ha hb
  exact ⟨q', M', hc, e, a1, b1⟩
theorem zd_name (h : zC_name) {q : zSt} {M : zM} {k1 bad : zM → zO} {a b : Int32} (hq : tC q < 600) (ha : zQx q M) (hb : zQm q M) : ∃ (q' : zSt) (M' : zM), tC q' ≤ tC q + 1 ∧ zbI (F_L_name 0 a b 124 M) (fun r3 M3 => zbI (F_X12_name 79 a b M3) (fun r4 M4 => zbI (F_X12_thrown 79 M4) (fun r5 M5 => zit (r5 = r3) (zjo (fun (M6 : zM) => k1 M6) (fun (k2 : zM → zO) => zit (r3 = 0) (zck (zin 0 1) (zit ((lg_cmp (zgA M5 124 (zix 0)) r4.toInt64) = 0) (k2 M5) (bad M5))) (k2 M5))) (bad M5)))) = k1 M' ∧ zQx q' M' ∧ zQm q' M' := by
  obtain ⟨q', code, r, hm, hc, hx, hy⟩ := h q (qx_o ha) hq a b
  obtain ⟨M', e, a1, b1⟩ := zcaseI (k1 := k1) (bad := bad) (bad2 := bad) (H := F_L_name 0 a b 124) zhA zhB hx hy (fun _ => rfl) (fun _ _ => rfl) (fun z => absurd z (by omega)) ha hb
  exact ⟨q', M', hc, e, a1, b1⟩
theorem zd_letter (h : zC_letter) {q : zSt} {M : zM} {k1 bad : zM → zO} {a b : Int32} (hq : tC q < 600) (ha : zQx q M) (hb : zQm q M) : ∃ (q' : zSt) (M' : zM), tC q' ≤ tC q + 1 ∧ zbI (F_L_letter 0 a b 124 M) (fun r3 M3 => zbI (F_X12_letter 79 a b M3) (fun r4 M4 => zbI (F_X12_thrown 79 M4) (fun r5 M5 => zit (r5 = r3) (zjo (fun (M6 : zM) => k1 M6) (fun (k2 : zM → zO) => zit (r3 = 0) (zck (zin 0 1) (zit ((lg_cmp (zgA M5 124 (zix 0)) r4.toInt64) = 0) (k2 M5) (bad M5))) (k2 M5))) (bad M5)))) = k1 M' ∧ zQx q' M' ∧ zQm q' M' := by
  obtain ⟨q', code, r, hm, hc, hx, hy⟩ := h q (qx_o ha) hq a b
  obtain ⟨M', e, a1, b1⟩ := zcaseI (k1 := k1) (bad := bad) (bad2 := bad) (H := F_L_letter 0 a b 124) zhA zhB hx hy (fun _ => rfl) (fun _ _ => rfl) (fun z => absurd z (by omega)) ha hb
  exact ⟨q', M', hc, e, a1, b1⟩
theorem zd_has (h : zC_has) {q : zSt} {M : zM} {k1 bad : zM → zO} {a : Int32} (hq : tC q < 600) (ha : zQx q M) (hb : zQm q M) : ∃ (q' : zSt) (M' : zM), tC q' ≤ tC q + 1 ∧ zbI (F_L_has 0 a 124 M) (fun r3 M3 => zbI (F_X12_has 79 a M3) (fun r4 M4 => zbI (F_X12_thrown 79 M4) (fun r5 M5 => zit (r5 = r3) (zjo (fun (M6 : zM) => k1 M6) (fun (k2 : zM → zO) => zit (r3 = 0) (zck (zin 0 1) (zit ((lg_cmp (zgA M5 124 (zix 0)) r4.toInt64) = 0) (k2 M5) (bad M5))) (k2 M5))) (bad M5)))) = k1 M' ∧ zQx q' M' ∧ zQm q' M' := by
  obtain ⟨q', code, r, hm, hc, hx, hy⟩ := h q (qx_o ha) hq a
  obtain ⟨M', e, a1, b1⟩ := zcaseI (k1 := k1) (bad := bad) (bad2 := bad) (H := F_L_has 0 a 124) zhA zhB hx hy (fun _ => rfl) (fun _ _ => rfl) (fun z => absurd z (by omega)) ha hb
  exact ⟨q', M', hc, e, a1, b1⟩
theorem zd_debt (h : zC_debt) {q : zSt} {M : zM} {k1 bad : zM → zO} {a b : Int32} (hq : tC q < 600) (ha : zQx q M) (hb : zQm q M) : ∃ (q' : zSt) (M' : zM), tC q' ≤ tC q + 1 ∧ zbI (F_L_debt 0 a b 124 M) (fun r3 M3 => zbI (F_X12_debt 79 a b M3) (fun r4 M4 => zbI (F_X12_thrown 79 M4) (fun r5 M5 => zit (r5 = r3) (zjo (fun (M6 : zM) => k1 M6) (fun (k2 : zM → zO) => zit (r3 = 0) (zck (zin 0 1) (zit ((lg_cmp (zgA M5 124 (zix 0)) r4.toInt64) = 0) (k2 M5) (bad M5))) (k2 M5))) (bad M5)))) = k1 M' ∧ zQx q' M' ∧ zQm q' M' := by
  obtain ⟨q', code, r, hm, hc, hx, hy⟩ := h q (qx_o ha) hq a b
  obtain ⟨M', e, a1, b1⟩ := zcaseI (k1 := k1) (bad := bad) (bad2 := bad) (H := F_L_debt 0 a b 124) zhA zhB hx hy (fun _ => rfl) (fun _ _ => rfl) (fun _ _ => rfl) ha hb
  exact ⟨q', M', hc, e, a1, b1⟩
theorem zd_may (h : zC_may) {q : zSt} {M : zM} {k1 bad : zM → zO} {a b : Int32} (hq : tC q < 600) (ha : zQx q M) (hb : zQm q M) : ∃ (q' : zSt) (M' : zM), tC q' ≤ tC q + 1 ∧ zbI (F_L_may 0 a b 124 M) (fun r3 M3 => zbI (F_X12_may 79 a b M3) (fun r4 M4 => zbI (F_X12_thrown 79 M4) (fun r5 M5 => zit (r5 = r3) (zjo (fun (M6 : zM) => k1 M6) (fun (k2 : zM → zO) => zit (r3 = 0) (zck (zin 0 1) (zjo (fun (w1 : Int64) (M7 : zM) => zit ((lg_cmp (zgA M5 124 (zix 0)) w1) = 0) (k2 M7) (bad M7)) (fun (k9 : Int64 → zM → zO) => zit (r4 = 0) (k9 0 M5) (k9 1 M5)))) (k2 M5))) (bad M5)))) = k1 M' ∧ zQx q' M' ∧ zQm q' M' := by
  obtain ⟨q', code, r, hm, hc, hx, hy⟩ := h q (qx_o ha) hq a b
  obtain ⟨M', e, a1, b1⟩ := zcaseZ (k1 := k1) (bad := bad) (bad2 := bad) (H := F_L_may 0 a b 124) zhA zhB hx hy (fun _ => rfl) (fun _ _ => rfl) (fun _ _ => rfl) ha hb
  exact ⟨q', M', hc, e, a1, b1⟩
theorem zd_swap (h : zC_swap) {q : zSt} {M : zM} {k1 bad : zM → zO} {a b : Int32} (hq : tC q < 600) (ha : zQx q M) (hb : zQm q M) : ∃ (q' : zSt) (M' : zM), tC q' ≤ tC q + 1 ∧ zbI (F_L_swap 0 a b 124 M) (fun r3 M3 => zbI (F_X12_swap 79 a b M3) (fun r4 M4 => zbI (F_X12_thrown 79 M4) (fun r5 M5 => zit (r5 = r3) (zjo (fun (M6 : zM) => k1 M6) (fun (k2 : zM → zO) => zit (r3 = 0) (zck (zin 0 1) (zit ((lg_cmp (zgA M5 124 (zix 0)) r4.toInt64) = 0) (k2 M5) (bad M5))) (k2 M5))) (bad M5)))) = k1 M' ∧ zQx q' M' ∧ zQm q' M' := by
  obtain ⟨q', code, r, hm, hc, hx, hy⟩ := h q (qx_o ha) hq a b
  obtain ⟨M', e, a1, b1⟩ := zcaseI (k1 := k1) (bad := bad) (bad2 := bad) (H := F_L_swap 0 a b 124) zhA zhB hx hy (fun _ => rfl) (fun _ _ => rfl) (fun z => absurd z (by omega)) ha hb
  exact ⟨q', M', hc, e, a1, b1⟩
theorem zd_year (h : zC_year) {q : zSt} {M : zM} {k1 bad : zM → zO} (hq : tC q < 600) (ha : zQx q M) (hb : zQm q M) : ∃ (q' : zSt) (M' : zM), tC q' ≤ tC q + 1 ∧ zbI (F_X11_year 0 M) (fun r1 M1 => zbI (F_X12_year 79 M1) (fun r2 M2 => zit (r1 = r2) (k1 M2) (bad M2))) = k1 M' ∧ zQx q' M' ∧ zQm q' M' := by
  obtain ⟨q', code, r, hm, hc, hx, hy⟩ := h q (qx_o ha) hq
  obtain rfl : code = 0 := by omega
  obtain ⟨M', e, a1, b1⟩ := zcaseD (k1 := k1) (bad := bad) zhA zhB hx hy ha hb
  exact ⟨q', M', hc, e, a1, b1⟩
theorem zd_forgive (h : zC_forgive) {q : zSt} {M : zM} {k1 bad : zM → zO} {a b : Int32} (hq : tC q < 600) (ha : zQx q M) (hb : zQm q M) : ∃ (q' : zSt) (M' : zM), tC q' ≤ tC q + 1 ∧ zbI (F_L_forgive 0 a b 124 M) (fun r3 M3 => zbI (F_X12_forgive 79 a b M3) (fun r4 M4 => zbI (F_X12_thrown 79 M4) (fun r5 M5 => zit (r5 = r3) (zjo (fun (M6 : zM) => k1 M6) (fun (k2 : zM → zO) => zit (r3 = 0) (zck (zin 0 1) (zit ((lg_cmp (zgA M5 124 (zix 0)) r4.toInt64) = 0) (k2 M5) (bad M5))) (k2 M5))) (bad M5)))) = k1 M' ∧ zQx q' M' ∧ zQm q' M' := by
  obtain ⟨q', code, r, hm, hc, hx, hy⟩ := h q (qx_o ha) hq a b
  obtain ⟨M', e, a1, b1⟩ := zcaseI (k1 := k1) (bad := bad) (bad2 := bad) (H := F_L_forgive 0 a b 124) zhA zhB hx hy (fun _ => rfl) (fun _ _ => rfl) (fun _ _ => rfl) ha hb
  exact ⟨q', M', hc, e, a1, b1⟩
theorem zd_undo (h : zC_undo) {q : zSt} {M : zM} {k1 bad : zM → zO} (hq : tC q < 600) (ha : zQx q M) (hb : zQm q M) : ∃ (q' : zSt) (M' : zM), tC q' ≤ tC q + 1 ∧ zbI (F_X11_undo 0 M) (fun r1 M1 => zbI (F_X12_undo 79 M1) (fun r2 M2 => zit (r1 = r2) (k1 M2) (bad M2))) = k1 M' ∧ zQx q' M' ∧ zQm q' M' := by
  obtain ⟨q', code, r, hm, hc, hx, hy⟩ := h q (qx_o ha) hq
  obtain rfl : code = 0 := by omega
  obtain ⟨M', e, a1, b1⟩ := zcaseD (k1 := k1) (bad := bad) zhA zhB hx hy ha hb
  exact ⟨q', M', hc, e, a1, b1⟩
theorem zd_prefers (h : zC_prefers) {q : zSt} {M : zM} {k1 bad : zM → zO} {a b c : Int32} (hq : tC q < 600) (ha : zQx q M) (hb : zQm q M) : ∃ (q' : zSt) (M' : zM), tC q' ≤ tC q + 1 ∧ zbI (F_L_prefers 0 a b c 124 M) (fun r3 M3 => zbI (F_X12_prefers 79 a b c M3) (fun r4 M4 => zbI (F_X12_thrown 79 M4) (fun r5 M5 => zit (r5 = r3) (zjo (fun (M6 : zM) => k1 M6) (fun (k2 : zM → zO) => zit (r3 = 0) (zck (zin 0 1) (zjo (fun (w1 : Int64) (M7 : zM) => zit ((lg_cmp (zgA M5 124 (zix 0)) w1) = 0) (k2 M7) (bad M7)) (fun (k9 : Int64 → zM → zO) => zit (r4 = 0) (k9 0 M5) (k9 1 M5)))) (k2 M5))) (bad M5)))) = k1 M' ∧ zQx q' M' ∧ zQm q' M' := by
  obtain ⟨q', code, r, hm, hc, hx, hy⟩ := h q (qx_o ha) hq a b c
  obtain ⟨M', e, a1, b1⟩ := zcaseZ (k1 := k1) (bad := bad) (bad2 := bad) (H := F_L_prefers 0 a b c 124) zhA zhB hx hy (fun _ => rfl) (fun _ _ => rfl) (fun z => absurd z (by omega)) ha hb
  exact ⟨q', M', hc, e, a1, b1⟩
theorem zd_glad (h : zC_glad) {q : zSt} {M : zM} {k1 bad : zM → zO} {a : Int32} (hq : tC q < 600) (ha : zQx q M) (hb : zQm q M) : ∃ (q' : zSt) (M' : zM), tC q' ≤ tC q + 1 ∧ zbI (F_L_glad 0 a 124 M) (fun r3 M3 => zbI (F_X12_glad 79 a M3) (fun r4 M4 => zbI (F_X12_thrown 79 M4) (fun r5 M5 => zit (r5 = r3) (zjo (fun (M6 : zM) => k1 M6) (fun (k2 : zM → zO) => zit (r3 = 0) (zck (zin 0 1) (zit ((lg_cmp (zgA M5 124 (zix 0)) r4.toInt64) = 0) (k2 M5) (bad M5))) (k2 M5))) (bad M5)))) = k1 M' ∧ zQx q' M' ∧ zQm q' M' := by
  obtain ⟨q', code, r, hm, hc, hx, hy⟩ := h q (qx_o ha) hq a
  obtain ⟨M', e, a1, b1⟩ := zcaseI (k1 := k1) (bad := bad) (bad2 := bad) (H := F_L_glad 0 a 124) zhA zhB hx hy (fun _ => rfl) (fun _ _ => rfl) (fun z => absurd z (by omega)) ha hb
  exact ⟨q', M', hc, e, a1, b1⟩
theorem zd_round (h : zC_round) {q : zSt} {M : zM} {k1 bad : zM → zO} {a : Int32} (hq : tC q < 600) (ha : zQx q M) (hb : zQm q M) : ∃ (q' : zSt) (M' : zM), tC q' ≤ tC q + 1 ∧ zbI (F_L_round 0 a 124 M) (fun r3 M3 => zbI (F_X12_round 79 a M3) (fun r4 M4 => zbI (F_X12_thrown 79 M4) (fun r5 M5 => zit (r5 = r3) (zjo (fun (M6 : zM) => k1 M6) (fun (k2 : zM → zO) => zit (r3 = 0) (zck (zin 0 1) (zit ((lg_cmp (zgA M5 124 (zix 0)) r4.toInt64) = 0) (k2 M5) (bad M5))) (k2 M5))) (bad M5)))) = k1 M' ∧ zQx q' M' ∧ zQm q' M' := by
  obtain ⟨q', code, r, hm, hc, hx, hy⟩ := h q (qx_o ha) hq a
  obtain ⟨M', e, a1, b1⟩ := zcaseI (k1 := k1) (bad := bad) (bad2 := bad) (H := F_L_round 0 a 124) zhA zhB hx hy (fun _ => rfl) (fun _ _ => rfl) (fun z => absurd z (by omega)) ha hb
  exact ⟨q', M', hc, e, a1, b1⟩
theorem zd_leave (h : zC_leave) {q : zSt} {M : zM} {k1 bad : zM → zO} (hq : tC q < 600) (ha : zQx q M) (hb : zQm q M) : ∃ (q' : zSt) (M' : zM), tC q' ≤ tC q + 1 ∧ zbI (F_X11_leave 0 M) (fun r1 M1 => zbI (F_X12_leave 79 M1) (fun r2 M2 => zit (r1 = r2) (k1 M2) (bad M2))) = k1 M' ∧ zQx q' M' ∧ zQm q' M' := by
  obtain ⟨q', code, r, hm, hc, hx, hy⟩ := h q (qx_o ha) hq
  obtain rfl : code = 0 := by omega
  obtain ⟨M', e, a1, b1⟩ := zcaseD (k1 := k1) (bad := bad) zhA zhB hx hy ha hb
  exact ⟨q', M', hc, e, a1, b1⟩
theorem zd_swaps (h : zC_swaps) {q : zSt} {M : zM} {k1 bad : zM → zO} {a b : Int32} (hq : tC q < 600) (ha : zQx q M) (hb : zQm q M) : ∃ (q' : zSt) (M' : zM), tC q' ≤ tC q + 1 ∧ zbI (F_L_swaps 0 a b 124 M) (fun r3 M3 => zbI (F_X12_swaps 79 a b M3) (fun r4 M4 => zbI (F_X12_thrown 79 M4) (fun r5 M5 => zit (r5 = r3) (zjo (fun (M6 : zM) => k1 M6) (fun (k2 : zM → zO) => zit (r3 = 0) (zck (zin 0 1) (zit ((lg_cmp (zgA M5 124 (zix 0)) r4.toInt64) = 0) (k2 M5) (bad M5))) (k2 M5))) (bad M5)))) = k1 M' ∧ zQx q' M' ∧ zQm q' M' := by
  obtain ⟨q', code, r, hm, hc, hx, hy⟩ := h q (qx_o ha) hq a b
  obtain ⟨M', e, a1, b1⟩ := zcaseI (k1 := k1) (bad := bad) (bad2 := bad) (H := F_L_swaps 0 a b 124) zhA zhB hx hy (fun _ => rfl) (fun _ _ => rfl) (fun _ _ => rfl) ha hb
  exact ⟨q', M', hc, e, a1, b1⟩
theorem zd_ship (h : zC_ship) {q : zSt} {M : zM} {k1 bad : zM → zO} {a b c : Int32} (hq : tC q < 600) (ha : zQx q M) (hb : zQm q M) : ∃ (q' : zSt) (M' : zM), tC q' ≤ tC q + 1 ∧ zbI (F_L_ship 0 a b c 124 M) (fun r3 M3 => zbI (F_X12_ship 79 a b c M3) (fun r4 M4 => zbI (F_X12_thrown 79 M4) (fun r5 M5 => zit (r5 = r3) (zjo (fun (M6 : zM) => k1 M6) (fun (k2 : zM → zO) => zit (r3 = 0) (zck (zin 0 1) (zit ((lg_cmp (zgA M5 124 (zix 0)) r4.toInt64) = 0) (k2 M5) (bad M5))) (k2 M5))) (bad M5)))) = k1 M' ∧ zQx q' M' ∧ zQm q' M' := by
  obtain ⟨q', code, r, hm, hc, hx, hy⟩ := h q (qx_o ha) hq a b c
  obtain ⟨M', e, a1, b1⟩ := zcaseI (k1 := k1) (bad := bad) (bad2 := bad) (H := F_L_ship 0 a b c 124) zhA zhB hx hy (fun _ => rfl) (fun _ _ => rfl) (fun _ _ => rfl) ha hb
  exact ⟨q', M', hc, e, a1, b1⟩
theorem zd_joined (h : zC_joined) {q : zSt} {M : zM} {k1 bad : zM → zO} {a b c : Int32} (hq : tC q < 600) (ha : zQx q M) (hb : zQm q M) : ∃ (q' : zSt) (M' : zM), tC q' ≤ tC q + 1 ∧ zbI (F_L_joined 0 a b c 124 M) (fun r3 M3 => zbI (F_X12_joined 79 a b c M3) (fun r4 M4 => zbI (F_X12_thrown 79 M4) (fun r5 M5 => zit (r5 = r3) (zjo (fun (M6 : zM) => k1 M6) (fun (k2 : zM → zO) => zit (r3 = 0) (zck (zin 0 1) (zit ((lg_cmp (zgA M5 124 (zix 0)) r4.toInt64) = 0) (k2 M5) (bad M5))) (k2 M5))) (bad M5)))) = k1 M' ∧ zQx q' M' ∧ zQm q' M' := by
  obtain ⟨q', code, r, hm, hc, hx, hy⟩ := h q (qx_o ha) hq a b c
  obtain ⟨M', e, a1, b1⟩ := zcaseI (k1 := k1) (bad := bad) (bad2 := bad) (H := F_L_joined 0 a b c 124) zhA zhB hx hy (fun _ => rfl) (fun _ _ => rfl) (fun _ _ => rfl) ha hb
  exact ⟨q', M', hc, e, a1, b1⟩
theorem zd_inside (h : zC_inside) {q : zSt} {M : zM} {k1 bad : zM → zO} {a b : Int32} (hq : tC q < 600) (ha : zQx q M) (hb : zQm q M) : ∃ (q' : zSt) (M' : zM), tC q' ≤ tC q + 1 ∧ zbI (F_L_inside 0 a b 124 M) (fun r3 M3 => zbI (F_X12_inside 79 a b M3) (fun r4 M4 => zbI (F_X12_thrown 79 M4) (fun r5 M5 => zit (r5 = r3) (zjo (fun (M6 : zM) => k1 M6) (fun (k2 : zM → zO) => zit (r3 = 0) (zck (zin 0 1) (zjo (fun (w1 : Int64) (M7 : zM) => zit ((lg_cmp (zgA M5 124 (zix 0)) w1) = 0) (k2 M7) (bad M7)) (fun (k9 : Int64 → zM → zO) => zit (r4 = 0) (k9 0 M5) (k9 1 M5)))) (k2 M5))) (bad M5)))) = k1 M' ∧ zQx q' M' ∧ zQm q' M' := by
  obtain ⟨q', code, r, hm, hc, hx, hy⟩ := h q (qx_o ha) hq a b
  obtain ⟨M', e, a1, b1⟩ := zcaseZ (k1 := k1) (bad := bad) (bad2 := bad) (H := F_L_inside 0 a b 124) zhA zhB hx hy (fun _ => rfl) (fun _ _ => rfl) (fun z => absurd z (by omega)) ha hb
  exact ⟨q', M', hc, e, a1, b1⟩
theorem zd_shortest (h : zC_shortest) {q : zSt} {M : zM} {k1 bad : zM → zO} {a b : Int32} (hq : tC q < 600) (ha : zQx q M) (hb : zQm q M) : ∃ (q' : zSt) (M' : zM), tC q' ≤ tC q + 1 ∧ zbI (F_L_shortest 0 a b 124 M) (fun r3 M3 => zbI (F_X12_shortest 79 a b M3) (fun r4 M4 => zbI (F_X12_thrown 79 M4) (fun r5 M5 => zit (r5 = r3) (zjo (fun (M6 : zM) => k1 M6) (fun (k2 : zM → zO) => zit (r3 = 0) (zck (zin 0 1) (zit ((lg_cmp (zgA M5 124 (zix 0)) r4.toInt64) = 0) (k2 M5) (bad M5))) (k2 M5))) (bad M5)))) = k1 M' ∧ zQx q' M' ∧ zQm q' M' := by
  obtain ⟨q', code, r, hm, hc, hx, hy⟩ := h q (qx_o ha) hq a b
  obtain ⟨M', e, a1, b1⟩ := zcaseI (k1 := k1) (bad := bad) (bad2 := bad) (H := F_L_shortest 0 a b 124) zhA zhB hx hy (fun _ => rfl) (fun _ _ => rfl) (fun _ _ => rfl) ha hb
  exact ⟨q', M', hc, e, a1, b1⟩
theorem zd_worn (h : zC_worn) {q : zSt} {M : zM} {k1 bad : zM → zO} {a b c : Int32} (hq : tC q < 600) (ha : zQx q M) (hb : zQm q M) : ∃ (q' : zSt) (M' : zM), tC q' ≤ tC q + 1 ∧ zbI (F_L_worn 0 a b c 124 M) (fun r3 M3 => zbI (F_X12_worn 79 a b c M3) (fun r4 M4 => zbI (F_X12_thrown 79 M4) (fun r5 M5 => zit (r5 = r3) (zjo (fun (M6 : zM) => k1 M6) (fun (k2 : zM → zO) => zit (r3 = 0) (zck (zin 0 1) (zit ((lg_cmp (zgA M5 124 (zix 0)) r4.toInt64) = 0) (k2 M5) (bad M5))) (k2 M5))) (bad M5)))) = k1 M' ∧ zQx q' M' ∧ zQm q' M' := by
  obtain ⟨q', code, r, hm, hc, hx, hy⟩ := h q (qx_o ha) hq a b c
  obtain ⟨M', e, a1, b1⟩ := zcaseI (k1 := k1) (bad := bad) (bad2 := bad) (H := F_L_worn 0 a b c 124) zhA zhB hx hy (fun _ => rfl) (fun _ _ => rfl) (fun _ _ => rfl) ha hb
  exact ⟨q', M', hc, e, a1, b1⟩
theorem zd_tide (h : zC_tide) {q : zSt} {M : zM} {k1 bad : zM → zO} {a : Int32} (hq : tC q < 600) (ha : zQx q M) (hb : zQm q M) : ∃ (q' : zSt) (M' : zM), tC q' ≤ tC q + 1 ∧ zbI (F_L_tide 0 a 124 M) (fun r3 M3 => zbI (F_X12_tide 79 a M3) (fun r4 M4 => zbI (F_X12_thrown 79 M4) (fun r5 M5 => zit (r5 = r3) (zjo (fun (M6 : zM) => k1 M6) (fun (k2 : zM → zO) => zit (r3 = 0) (zck (zin 0 1) (zit ((lg_cmp (zgA M5 124 (zix 0)) r4.toInt64) = 0) (k2 M5) (bad M5))) (k2 M5))) (bad M5)))) = k1 M' ∧ zQx q' M' ∧ zQm q' M' := by
  obtain ⟨q', code, r, hm, hc, hx, hy⟩ := h q (qx_o ha) hq a
  obtain ⟨M', e, a1, b1⟩ := zcaseI (k1 := k1) (bad := bad) (bad2 := bad) (H := F_L_tide 0 a 124) zhA zhB hx hy (fun _ => rfl) (fun _ _ => rfl) (fun z => absurd z (by omega)) ha hb
  exact ⟨q', M', hc, e, a1, b1⟩
theorem zd_lies (h : zC_lies) {q : zSt} {M : zM} {k1 bad : zM → zO} {a b : Int32} (hq : tC q < 600) (ha : zQx q M) (hb : zQm q M) : ∃ (q' : zSt) (M' : zM), tC q' ≤ tC q + 1 ∧ zbI (F_L_lies 0 a b 124 M) (fun r3 M3 => zbI (F_X12_lies 79 a b M3) (fun r4 M4 => zbI (F_X12_thrown 79 M4) (fun r5 M5 => zit (r5 = r3) (zjo (fun (M6 : zM) => k1 M6) (fun (k2 : zM → zO) => zit (r3 = 0) (zck (zin 0 1) (zit ((lg_cmp (zgA M5 124 (zix 0)) r4.toInt64) = 0) (k2 M5) (bad M5))) (k2 M5))) (bad M5)))) = k1 M' ∧ zQx q' M' ∧ zQm q' M' := by
  obtain ⟨q', code, r, hm, hc, hx, hy⟩ := h q (qx_o ha) hq a b
  obtain ⟨M', e, a1, b1⟩ := zcaseI (k1 := k1) (bad := bad) (bad2 := bad) (H := F_L_lies 0 a b 124) zhA zhB hx hy (fun _ => rfl) (fun _ _ => rfl) (fun _ _ => rfl) ha hb
  exact ⟨q', M', hc, e, a1, b1⟩
theorem zd_see (h : zC_see) {q : zSt} {M : zM} {k1 bad : zM → zO} {a b : Int32} (hq : tC q < 600) (ha : zQx q M) (hb : zQm q M) : ∃ (q' : zSt) (M' : zM), tC q' ≤ tC q + 1 ∧ zbI (F_L_see 0 a b 124 M) (fun r3 M3 => zbI (F_X12_see 79 a b M3) (fun r4 M4 => zbI (F_X12_thrown 79 M4) (fun r5 M5 => zit (r5 = r3) (zjo (fun (M6 : zM) => k1 M6) (fun (k2 : zM → zO) => zit (r3 = 0) (zck (zin 0 1) (zit ((lg_cmp (zgA M5 124 (zix 0)) r4.toInt64) = 0) (k2 M5) (bad M5))) (k2 M5))) (bad M5)))) = k1 M' ∧ zQx q' M' ∧ zQm q' M' := by
  obtain ⟨q', code, r, hm, hc, hx, hy⟩ := h q (qx_o ha) hq a b
  obtain ⟨M', e, a1, b1⟩ := zcaseI (k1 := k1) (bad := bad) (bad2 := bad) (H := F_L_see 0 a b 124) zhA zhB hx hy (fun _ => rfl) (fun _ _ => rfl) (fun z => absurd z (by omega)) ha hb
  exact ⟨q', M', hc, e, a1, b1⟩
theorem zd_forget (h : zC_forget) {q : zSt} {M : zM} {k1 bad : zM → zO} (hq : tC q < 600) (ha : zQx q M) (hb : zQm q M) : ∃ (q' : zSt) (M' : zM), tC q' ≤ tC q + 1 ∧ zbV (F_X11_forget 0 M) (fun M1 => zbV (F_X12_forget 79 M1) (fun M2 => k1 M2)) = k1 M' ∧ zQx q' M' ∧ zQm q' M' := by
  obtain ⟨q', hc, hx, hy⟩ := h q (qx_o ha) hq
  obtain ⟨M', e, a1, b1⟩ := zcaseV (k1 := k1) zhA zhB hx hy ha hb
  exact ⟨q', M', hc, e, a1, b1⟩
theorem zd_sales (h : zC_sales) {q : zSt} {M : zM} {k1 bad : zM → zO} {a b : Int32} (hq : tC q < 600) (ha : zQx q M) (hb : zQm q M) : ∃ (q' : zSt) (M' : zM), tC q' ≤ tC q + 1 ∧ zbI (F_L_sales 0 a b 124 M) (fun r3 M3 => zbI (F_X12_sales 79 a b M3) (fun r4 M4 => zbI (F_X12_thrown 79 M4) (fun r5 M5 => zit (r5 = r3) (zjo (fun (M6 : zM) => k1 M6) (fun (k2 : zM → zO) => zit (r3 = 0) (zck (zin 0 1) (zit ((lg_cmp (zgA M5 124 (zix 0)) r4.toInt64) = 0) (k2 M5) (bad M5))) (k2 M5))) (bad M5)))) = k1 M' ∧ zQx q' M' ∧ zQm q' M' := by
  obtain ⟨q', code, r, hm, hc, hx, hy⟩ := h q (qx_o ha) hq a b
  obtain ⟨M', e, a1, b1⟩ := zcaseI (k1 := k1) (bad := bad) (bad2 := bad) (H := F_L_sales 0 a b 124) zhA zhB hx hy (fun _ => rfl) (fun _ _ => rfl) (fun _ _ => rfl) ha hb
  exact ⟨q', M', hc, e, a1, b1⟩
theorem zd_look (h : zC_look) {q : zSt} {M : zM} {k1 bad : zM → zO} {a : Int32} (hq : tC q < 600) (ha : zQx q M) (hb : zQm q M) : ∃ (q' : zSt) (M' : zM), tC q' ≤ tC q + 1 ∧ zbI (F_L_look 0 a 124 M) (fun r3 M3 => zbI (F_X12_look 79 a M3) (fun r4 M4 => zbI (F_X12_thrown 79 M4) (fun r5 M5 => zit (r5 = r3) (zjo (fun (M6 : zM) => k1 M6) (fun (k2 : zM → zO) => zit (r3 = 0) (zck (zin 0 1) (zit ((lg_cmp (zgA M5 124 (zix 0)) r4.toInt64) = 0) (k2 M5) (bad M5))) (k2 M5))) (bad M5)))) = k1 M' ∧ zQx q' M' ∧ zQm q' M' := by
  obtain ⟨q', code, r, hm, hc, hx, hy⟩ := h q (qx_o ha) hq a
  obtain ⟨M', e, a1, b1⟩ := zcaseI (k1 := k1) (bad := bad) (bad2 := bad) (H := F_L_look 0 a 124) zhA zhB hx hy (fun _ => rfl) (fun _ _ => rfl) (fun z => absurd z (by omega)) ha hb
  exact ⟨q', M', hc, e, a1, b1⟩
theorem zd_clerks (h : zC_clerks) {q : zSt} {M : zM} {k1 bad : zM → zO} {a b c : Int32} (hq : tC q < 600) (ha : zQx q M) (hb : zQm q M) : ∃ (q' : zSt) (M' : zM), tC q' ≤ tC q + 1 ∧ zbI (F_L_clerks 0 a b c 124 M) (fun r3 M3 => zbI (F_X12_clerks 79 a b c M3) (fun r4 M4 => zbI (F_X12_thrown 79 M4) (fun r5 M5 => zit (r5 = r3) (zjo (fun (M6 : zM) => k1 M6) (fun (k2 : zM → zO) => zit (r3 = 0) (zck (zin 0 1) (zit ((lg_cmp (zgA M5 124 (zix 0)) r4.toInt64) = 0) (k2 M5) (bad M5))) (k2 M5))) (bad M5)))) = k1 M' ∧ zQx q' M' ∧ zQm q' M' := by
  obtain ⟨q', code, r, hm, hc, hx, hy⟩ := h q (qx_o ha) hq a b c
  obtain ⟨M', e, a1, b1⟩ := zcaseI (k1 := k1) (bad := bad) (bad2 := bad) (H := F_L_clerks 0 a b c 124) zhA zhB hx hy (fun _ => rfl) (fun _ _ => rfl) (fun _ _ => rfl) ha hb
  exact ⟨q', M', hc, e, a1, b1⟩
theorem zd_century (h : zC_century) {q : zSt} {M : zM} {k1 bad : zM → zO} {a b c : Int32} (hq : tC q < 600) (ha : zQx q M) (hb : zQm q M) : ∃ (q' : zSt) (M' : zM), tC q' ≤ tC q + 1 ∧ zbI (F_L_century 0 a b c 124 M) (fun r3 M3 => zbI (F_X12_century 79 a b c M3) (fun r4 M4 => zbI (F_X12_thrown 79 M4) (fun r5 M5 => zit (r5 = r3) (zjo (fun (M6 : zM) => k1 M6) (fun (k2 : zM → zO) => zit (r3 = 0) (zck (zin 0 1) (zit ((lg_cmp (zgA M5 124 (zix 0)) r4.toInt64) = 0) (k2 M5) (bad M5))) (k2 M5))) (bad M5)))) = k1 M' ∧ zQx q' M' ∧ zQm q' M' := by
  obtain ⟨q', code, r, hm, hc, hx, hy⟩ := h q (qx_o ha) hq a b c
  obtain ⟨M', e, a1, b1⟩ := zcaseI (k1 := k1) (bad := bad) (bad2 := bad) (H := F_L_century 0 a b c 124) zhA zhB hx hy (fun _ => rfl) (fun _ _ => rfl) (fun _ _ => rfl) ha hb
  exact ⟨q', M', hc, e, a1, b1⟩
theorem zd_weather (h : zC_weather) {q : zSt} {M : zM} {k1 bad : zM → zO} {a b c : Int32} (hq : tC q < 600) (ha : zQx q M) (hb : zQm q M) : ∃ (q' : zSt) (M' : zM), tC q' ≤ tC q + 1 ∧ zbI (F_L_weather 0 a b c 124 M) (fun r3 M3 => zbI (F_X12_weather 79 a b c M3) (fun r4 M4 => zbI (F_X12_thrown 79 M4) (fun r5 M5 => zit (r5 = r3) (zjo (fun (M6 : zM) => k1 M6) (fun (k2 : zM → zO) => zit (r3 = 0) (zck (zin 0 1) (zit ((lg_cmp (zgA M5 124 (zix 0)) r4.toInt64) = 0) (k2 M5) (bad M5))) (k2 M5))) (bad M5)))) = k1 M' ∧ zQx q' M' ∧ zQm q' M' := by
  obtain ⟨q', code, r, hm, hc, hx, hy⟩ := h q (qx_o ha) hq a b c
  obtain ⟨M', e, a1, b1⟩ := zcaseI (k1 := k1) (bad := bad) (bad2 := bad) (H := F_L_weather 0 a b c 124) zhA zhB hx hy (fun _ => rfl) (fun _ _ => rfl) (fun z => absurd z (by omega)) ha hb
  exact ⟨q', M', hc, e, a1, b1⟩
theorem zd_owed (h : zC_owed) {q : zSt} {M : zM} {k1 bad : zM → zO} {a : Int32} (hq : tC q < 600) (ha : zQx q M) (hb : zQm q M) : ∃ (q' : zSt) (M' : zM), tC q' ≤ tC q + 1 ∧ zbI (F_L_owed 0 a 124 M) (fun r3 M3 => zbI (F_X12_owed 79 a M3) (fun r4 M4 => zbI (F_X12_thrown 79 M4) (fun r5 M5 => zit (r5 = r3) (zjo (fun (M6 : zM) => k1 M6) (fun (k2 : zM → zO) => zit (r3 = 0) (zck (zin 0 1) (zit ((lg_cmp (zgA M5 124 (zix 0)) r4.toInt64) = 0) (k2 M5) (bad M5))) (k2 M5))) (bad M5)))) = k1 M' ∧ zQx q' M' ∧ zQm q' M' := by
  obtain ⟨q', code, r, hm, hc, hx, hy⟩ := h q (qx_o ha) hq a
  obtain ⟨M', e, a1, b1⟩ := zcaseI (k1 := k1) (bad := bad) (bad2 := bad) (H := F_L_owed 0 a 124) zhA zhB hx hy (fun _ => rfl) (fun _ _ => rfl) (fun z => absurd z (by omega)) ha hb
  exact ⟨q', M', hc, e, a1, b1⟩
theorem zd_caravan (h : zC_caravan) {q : zSt} {M : zM} {k1 bad : zM → zO} {a : Int32} (hq : tC q < 600) (ha : zQx q M) (hb : zQm q M) : ∃ (q' : zSt) (M' : zM), tC q' ≤ tC q + 1 ∧ zbI (F_L_caravan 0 a 124 M) (fun r3 M3 => zbI (F_X12_caravan 79 a M3) (fun r4 M4 => zbI (F_X12_thrown 79 M4) (fun r5 M5 => zit (r5 = r3) (zjo (fun (M6 : zM) => k1 M6) (fun (k2 : zM → zO) => zit (r3 = 0) (zck (zin 0 1) (zit ((lg_cmp (zgA M5 124 (zix 0)) r4.toInt64) = 0) (k2 M5) (bad M5))) (k2 M5))) (bad M5)))) = k1 M' ∧ zQx q' M' ∧ zQm q' M' := by
  obtain ⟨q', code, r, hm, hc, hx, hy⟩ := h q (qx_o ha) hq a
  obtain ⟨M', e, a1, b1⟩ := zcaseI (k1 := k1) (bad := bad) (bad2 := bad) (H := F_L_caravan 0 a 124) zhA zhB hx hy (fun _ => rfl) (fun _ _ => rfl) (fun z => absurd z (by omega)) ha hb
  exact ⟨q', M', hc, e, a1, b1⟩
theorem zd_image (h : zC_image) {q : zSt} {M : zM} {k1 bad : zM → zO} (hq : tC q < 600) (ha : zQx q M) (hb : zQm q M) : ∃ (q' : zSt) (M' : zM), tC q' ≤ tC q + 1 ∧ zbV (F_X11_image 0 M) (fun M1 => zbV (F_X12_image 79 M1) (fun M2 => k1 M2)) = k1 M' ∧ zQx q' M' ∧ zQm q' M' := by
  obtain ⟨q', hc, hx, hy⟩ := h q (qx_o ha) hq
  obtain ⟨M', e, a1, b1⟩ := zcaseV (k1 := k1) zhA zhB hx hy ha hb
  exact ⟨q', M', hc, e, a1, b1⟩
theorem zd_restore (h : zC_restore) {q : zSt} {M : zM} {k1 bad : zM → zO} (hq : tC q < 600) (ha : zQx q M) (hb : zQm q M) : ∃ (q' : zSt) (M' : zM), tC q' ≤ tC q + 1 ∧ zbI (F_X11_restore 0 M) (fun r1 M1 => zbI (F_X12_restore 79 M1) (fun r2 M2 => zit (r1 = r2) (k1 M2) (bad M2))) = k1 M' ∧ zQx q' M' ∧ zQm q' M' := by
  obtain ⟨q', code, r, hm, hc, hx, hy⟩ := h q (qx_o ha) hq
  obtain rfl : code = 0 := by omega
  obtain ⟨M', e, a1, b1⟩ := zcaseD (k1 := k1) (bad := bad) zhA zhB hx hy ha hb
  exact ⟨q', M', hc, e, a1, b1⟩
theorem zlx {L j : Nat} (hL : L ≤ 3072) (hj : j ≤ 600) : (nI L - nI 6 < nI (6 * j)) = (L < 6 * j + 6) := by
  by_cases h : 6 ≤ L
  · rw [s_sub h, i_lt (by omega) (by omega)]
    exact propext ⟨fun _ => by omega, fun _ => by omega⟩
  · rw [nn_sub (by omega)]
    refine propext ⟨fun _ => by omega, fun _ => ?_⟩
    rw [Int32.lt_iff_toInt_lt, nn_toInt (by omega), nI_toInt (by omega)]
    omega
set_option maxHeartbeats 4000000 in
set_option maxRecDepth 100000 in
theorem zloop (o_feed : zC_feed) (o_sea : zC_sea) (o_fault : zC_fault) (o_count : zC_count) (o_name : zC_name) (o_letter : zC_letter) (o_has : zC_has) (o_debt : zC_debt) (o_may : zC_may) (o_swap : zC_swap) (o_year : zC_year) (o_forgive : zC_forgive) (o_undo : zC_undo) (o_prefers : zC_prefers) (o_glad : zC_glad) (o_round : zC_round) (o_leave : zC_leave) (o_swaps : zC_swaps) (o_ship : zC_ship) (o_joined : zC_joined) (o_inside : zC_inside) (o_shortest : zC_shortest) (o_worn : zC_worn) (o_tide : zC_tide) (o_lies : zC_lies) (o_see : zC_see) (o_forget : zC_forget) (o_sales : zC_sales) (o_look : zC_look) (o_clerks : zC_clerks) (o_century : zC_century) (o_weather : zC_weather) (o_owed : zC_owed) (o_caravan : zC_caravan) (o_image : zC_image) (o_restore : zC_restore) {L : Nat} {xs : Nat → Int32} (hL : L ≤ 3072) {G : zG} (hG : G.2.2.2.2.2.2 = (L, xs)) : ∀ (n j : Nat) (q : zSt) (M : zM), n + j = 513 → 6 * j ≤ L → tC q ≤ j → zQx q M → zQm q M → ∃ M', F_L_law G n (nI (6 * j)) M = zI 1 M' := by
  have g1 : G.2.2.2.2.2.2.1 = L := by rw [hG]
  have g2 : G.2.2.2.2.2.2.2 = xs := by rw [hG]
  intro n
  induction n with
  | zero =>
    intro j q M hn hl
    omega
  | succ n ih =>
    intro j q M hn hl hj ha hb
    rw [F_L_law]
    rw [g1, g2]
    by_cases hend : L < 6 * j + 6
    · rw [zit_t (show (Int32.ofNat L - 6 < nI (6 * j)) from by
        have := zlx (L := L) (j := j) hL (by omega)
        exact this.mpr hend)]
      exact ⟨M, rfl⟩
    rw [zit_f (show ¬ (Int32.ofNat L - 6 < nI (6 * j)) from by
        have := zlx (L := L) (j := j) hL (by omega)
        exact fun z => hend (this.mp z))]
    have ih' : ∀ q' M', tC q' ≤ j + 1 → zQx q' M' → zQm q' M' → ∃ Mf, F_L_law G n (nI (6 * j) + 6) M' = zI 1 Mf := fun q' M' h1 h2 h3 => by
      have := ih (j + 1) q' M' (by omega) (by omega) h1 h2 h3
      rw [show nI (6 * j) + 6 = nI (6 * (j + 1)) from by rw [show (6 : Int32) = nI 6 from rfl, nI_add]; rfl]
      exact this
    have z0 : zin (nI (6 * j)) L = true := zin_nI (by omega) (by omega)
    have z1 : zin (nI (6 * j) + 1) L = true := by rw [show (1 : Int32) = nI 1 from rfl, nI_add]; exact zin_nI (by omega) (by omega)
    have z2 : zin (nI (6 * j) + 2) L = true := by rw [show (2 : Int32) = nI 2 from rfl, nI_add]; exact zin_nI (by omega) (by omega)
    have z3 : zin (nI (6 * j) + 3) L = true := by rw [show (3 : Int32) = nI 3 from rfl, nI_add]; exact zin_nI (by omega) (by omega)
    have z4 : zin (nI (6 * j) + 4) L = true := by rw [show (4 : Int32) = nI 4 from rfl, nI_add]; exact zin_nI (by omega) (by omega)
    have z5 : zin (nI (6 * j) + 5) L = true := by rw [show (5 : Int32) = nI 5 from rfl, nI_add]; exact zin_nI (by omega) (by omega)
    have x0 : zix (nI (6 * j)) = 6 * j := nI_clamp (by omega)
    simp only [z0, z1, z2, z3, z4, z5, x0, zck_t, zjo_eq]
    by_cases c0 : xs (6 * j) &&& 63 = 0
    · rw [zit_t c0]
      obtain ⟨q', M', hc, e, a1, b1⟩ := zd_feed o_feed (k1 := fun M => F_L_law G n (nI (6 * j) + 6) M) (bad := fun M => zck (zbo 0) (zI 0 M)) (by omega) ha hb
      obtain ⟨Mf, ef⟩ := ih' q' M' (by omega) a1 b1
      exact ⟨Mf, Eq.trans e ef⟩
    rw [zit_f c0]
    by_cases c1 : xs (6 * j) &&& 63 = 1
    · rw [zit_t c1]
      obtain ⟨q', M', hc, e, a1, b1⟩ := zd_sea o_sea (k1 := fun M => F_L_law G n (nI (6 * j) + 6) M) (bad := fun M => zck (zbo 0) (zI 0 M)) (by omega) ha hb
      obtain ⟨Mf, ef⟩ := ih' q' M' (by omega) a1 b1
      exact ⟨Mf, Eq.trans e ef⟩
    rw [zit_f c1]
    by_cases c2 : xs (6 * j) &&& 63 = 2
    · rw [zit_t c2]
      obtain ⟨q', M', hc, e, a1, b1⟩ := zd_fault o_fault (k1 := fun M => F_L_law G n (nI (6 * j) + 6) M) (bad := fun M => zck (zbo 0) (zI 0 M)) (by omega) ha hb
      obtain ⟨Mf, ef⟩ := ih' q' M' (by omega) a1 b1
      exact ⟨Mf, Eq.trans e ef⟩
    rw [zit_f c2]
    by_cases c3 : xs (6 * j) &&& 63 = 3
    · rw [zit_t c3]
      obtain ⟨q', M', hc, e, a1, b1⟩ := zd_count o_count (k1 := fun M => F_L_law G n (nI (6 * j) + 6) M) (bad := fun M => zck (zbo 0) (zI 0 M)) (by omega) ha hb
      obtain ⟨Mf, ef⟩ := ih' q' M' (by omega) a1 b1
      exact ⟨Mf, Eq.trans e ef⟩
    rw [zit_f c3]
    by_cases c4 : xs (6 * j) &&& 63 = 4
    · rw [zit_t c4]
      obtain ⟨q', M', hc, e, a1, b1⟩ := zd_name o_name (k1 := fun M => F_L_law G n (nI (6 * j) + 6) M) (bad := fun M => zck (zbo 0) (zI 0 M)) (by omega) ha hb
      obtain ⟨Mf, ef⟩ := ih' q' M' (by omega) a1 b1
      exact ⟨Mf, Eq.trans e ef⟩
    rw [zit_f c4]
    by_cases c5 : xs (6 * j) &&& 63 = 5
    · rw [zit_t c5]
      obtain ⟨q', M', hc, e, a1, b1⟩ := zd_letter o_letter (k1 := fun M => F_L_law G n (nI (6 * j) + 6) M) (bad := fun M => zck (zbo 0) (zI 0 M)) (by omega) ha hb
      obtain ⟨Mf, ef⟩ := ih' q' M' (by omega) a1 b1
      exact ⟨Mf, Eq.trans e ef⟩
    rw [zit_f c5]
    by_cases c6 : xs (6 * j) &&& 63 = 6
    · rw [zit_t c6]
      obtain ⟨q', M', hc, e, a1, b1⟩ := zd_has o_has (k1 := fun M => F_L_law G n (nI (6 * j) + 6) M) (bad := fun M => zck (zbo 0) (zI 0 M)) (by omega) ha hb
      obtain ⟨Mf, ef⟩ := ih' q' M' (by omega) a1 b1
      exact ⟨Mf, Eq.trans e ef⟩
    rw [zit_f c6]
    by_cases c7 : xs (6 * j) &&& 63 = 7
    · rw [zit_t c7]
      obtain ⟨q', M', hc, e, a1, b1⟩ := zd_debt o_debt (k1 := fun M => F_L_law G n (nI (6 * j) + 6) M) (bad := fun M => zck (zbo 0) (zI 0 M)) (by omega) ha hb
      obtain ⟨Mf, ef⟩ := ih' q' M' (by omega) a1 b1
      exact ⟨Mf, Eq.trans e ef⟩
    rw [zit_f c7]
    by_cases c8 : xs (6 * j) &&& 63 = 8
    · rw [zit_t c8]
      obtain ⟨q', M', hc, e, a1, b1⟩ := zd_may o_may (k1 := fun M => F_L_law G n (nI (6 * j) + 6) M) (bad := fun M => zck (zbo 0) (zI 0 M)) (by omega) ha hb
      obtain ⟨Mf, ef⟩ := ih' q' M' (by omega) a1 b1
      exact ⟨Mf, Eq.trans e ef⟩
    rw [zit_f c8]
    by_cases c9 : xs (6 * j) &&& 63 = 9
    · rw [zit_t c9]
      obtain ⟨q', M', hc, e, a1, b1⟩ := zd_swap o_swap (k1 := fun M => F_L_law G n (nI (6 * j) + 6) M) (bad := fun M => zck (zbo 0) (zI 0 M)) (by omega) ha hb
      obtain ⟨Mf, ef⟩ := ih' q' M' (by omega) a1 b1
      exact ⟨Mf, Eq.trans e ef⟩
    rw [zit_f c9]
    by_cases c10 : xs (6 * j) &&& 63 = 10
    · rw [zit_t c10]
      obtain ⟨q', M', hc, e, a1, b1⟩ := zd_year o_year (k1 := fun M => F_L_law G n (nI (6 * j) + 6) M) (bad := fun M => zck (zbo 0) (zI 0 M)) (by omega) ha hb
      obtain ⟨Mf, ef⟩ := ih' q' M' (by omega) a1 b1
      exact ⟨Mf, Eq.trans e ef⟩
    rw [zit_f c10]
    by_cases c11 : xs (6 * j) &&& 63 = 11
    · rw [zit_t c11]
      obtain ⟨q', M', hc, e, a1, b1⟩ := zd_forgive o_forgive (k1 := fun M => F_L_law G n (nI (6 * j) + 6) M) (bad := fun M => zck (zbo 0) (zI 0 M)) (by omega) ha hb
      obtain ⟨Mf, ef⟩ := ih' q' M' (by omega) a1 b1
      exact ⟨Mf, Eq.trans e ef⟩
    rw [zit_f c11]
    by_cases c12 : xs (6 * j) &&& 63 = 12
    · rw [zit_t c12]
      obtain ⟨q', M', hc, e, a1, b1⟩ := zd_undo o_undo (k1 := fun M => F_L_law G n (nI (6 * j) + 6) M) (bad := fun M => zck (zbo 0) (zI 0 M)) (by omega) ha hb
      obtain ⟨Mf, ef⟩ := ih' q' M' (by omega) a1 b1
      exact ⟨Mf, Eq.trans e ef⟩
    rw [zit_f c12]
    by_cases c13 : xs (6 * j) &&& 63 = 13
    · rw [zit_t c13]
      obtain ⟨q', M', hc, e, a1, b1⟩ := zd_prefers o_prefers (k1 := fun M => F_L_law G n (nI (6 * j) + 6) M) (bad := fun M => zck (zbo 0) (zI 0 M)) (by omega) ha hb
      obtain ⟨Mf, ef⟩ := ih' q' M' (by omega) a1 b1
      exact ⟨Mf, Eq.trans e ef⟩
    rw [zit_f c13]
    by_cases c14 : xs (6 * j) &&& 63 = 14
    · rw [zit_t c14]
      obtain ⟨q', M', hc, e, a1, b1⟩ := zd_glad o_glad (k1 := fun M => F_L_law G n (nI (6 * j) + 6) M) (bad := fun M => zck (zbo 0) (zI 0 M)) (by omega) ha hb
      obtain ⟨Mf, ef⟩ := ih' q' M' (by omega) a1 b1
      exact ⟨Mf, Eq.trans e ef⟩
    rw [zit_f c14]
    by_cases c15 : xs (6 * j) &&& 63 = 15
    · rw [zit_t c15]
      obtain ⟨q', M', hc, e, a1, b1⟩ := zd_round o_round (k1 := fun M => F_L_law G n (nI (6 * j) + 6) M) (bad := fun M => zck (zbo 0) (zI 0 M)) (by omega) ha hb
      obtain ⟨Mf, ef⟩ := ih' q' M' (by omega) a1 b1
      exact ⟨Mf, Eq.trans e ef⟩
    rw [zit_f c15]
    by_cases c16 : xs (6 * j) &&& 63 = 16
    · rw [zit_t c16]
      obtain ⟨q', M', hc, e, a1, b1⟩ := zd_leave o_leave (k1 := fun M => F_L_law G n (nI (6 * j) + 6) M) (bad := fun M => zck (zbo 0) (zI 0 M)) (by omega) ha hb
      obtain ⟨Mf, ef⟩ := ih' q' M' (by omega) a1 b1
      exact ⟨Mf, Eq.trans e ef⟩
    rw [zit_f c16]
    by_cases c17 : xs (6 * j) &&& 63 = 17
    · rw [zit_t c17]
      obtain ⟨q', M', hc, e, a1, b1⟩ := zd_swaps o_swaps (k1 := fun M => F_L_law G n (nI (6 * j) + 6) M) (bad := fun M => zck (zbo 0) (zI 0 M)) (by omega) ha hb
      obtain ⟨Mf, ef⟩ := ih' q' M' (by omega) a1 b1
      exact ⟨Mf, Eq.trans e ef⟩
    rw [zit_f c17]
    by_cases c18 : xs (6 * j) &&& 63 = 18
    · rw [zit_t c18]
      obtain ⟨q', M', hc, e, a1, b1⟩ := zd_ship o_ship (k1 := fun M => F_L_law G n (nI (6 * j) + 6) M) (bad := fun M => zck (zbo 0) (zI 0 M)) (by omega) ha hb
      obtain ⟨Mf, ef⟩ := ih' q' M' (by omega) a1 b1
      exact ⟨Mf, Eq.trans e ef⟩
    rw [zit_f c18]
    by_cases c19 : xs (6 * j) &&& 63 = 19
    · rw [zit_t c19]
      obtain ⟨q', M', hc, e, a1, b1⟩ := zd_joined o_joined (k1 := fun M => F_L_law G n (nI (6 * j) + 6) M) (bad := fun M => zck (zbo 0) (zI 0 M)) (by omega) ha hb
      obtain ⟨Mf, ef⟩ := ih' q' M' (by omega) a1 b1
      exact ⟨Mf, Eq.trans e ef⟩
    rw [zit_f c19]
    by_cases c20 : xs (6 * j) &&& 63 = 20
    · rw [zit_t c20]
      obtain ⟨q', M', hc, e, a1, b1⟩ := zd_inside o_inside (k1 := fun M => F_L_law G n (nI (6 * j) + 6) M) (bad := fun M => zck (zbo 0) (zI 0 M)) (by omega) ha hb
      obtain ⟨Mf, ef⟩ := ih' q' M' (by omega) a1 b1
      exact ⟨Mf, Eq.trans e ef⟩
    rw [zit_f c20]
    by_cases c21 : xs (6 * j) &&& 63 = 21
    · rw [zit_t c21]
      obtain ⟨q', M', hc, e, a1, b1⟩ := zd_shortest o_shortest (k1 := fun M => F_L_law G n (nI (6 * j) + 6) M) (bad := fun M => zck (zbo 0) (zI 0 M)) (by omega) ha hb
      obtain ⟨Mf, ef⟩ := ih' q' M' (by omega) a1 b1
      exact ⟨Mf, Eq.trans e ef⟩
    rw [zit_f c21]
    by_cases c22 : xs (6 * j) &&& 63 = 22
    · rw [zit_t c22]
      obtain ⟨q', M', hc, e, a1, b1⟩ := zd_worn o_worn (k1 := fun M => F_L_law G n (nI (6 * j) + 6) M) (bad := fun M => zck (zbo 0) (zI 0 M)) (by omega) ha hb
      obtain ⟨Mf, ef⟩ := ih' q' M' (by omega) a1 b1
      exact ⟨Mf, Eq.trans e ef⟩
    rw [zit_f c22]
    by_cases c23 : xs (6 * j) &&& 63 = 23
    · rw [zit_t c23]
      obtain ⟨q', M', hc, e, a1, b1⟩ := zd_tide o_tide (k1 := fun M => F_L_law G n (nI (6 * j) + 6) M) (bad := fun M => zck (zbo 0) (zI 0 M)) (by omega) ha hb
      obtain ⟨Mf, ef⟩ := ih' q' M' (by omega) a1 b1
      exact ⟨Mf, Eq.trans e ef⟩
    rw [zit_f c23]
    by_cases c24 : xs (6 * j) &&& 63 = 24
    · rw [zit_t c24]
      obtain ⟨q', M', hc, e, a1, b1⟩ := zd_lies o_lies (k1 := fun M => F_L_law G n (nI (6 * j) + 6) M) (bad := fun M => zck (zbo 0) (zI 0 M)) (by omega) ha hb
      obtain ⟨Mf, ef⟩ := ih' q' M' (by omega) a1 b1
      exact ⟨Mf, Eq.trans e ef⟩
    rw [zit_f c24]
    by_cases c25 : xs (6 * j) &&& 63 = 25
    · rw [zit_t c25]
      obtain ⟨q', M', hc, e, a1, b1⟩ := zd_see o_see (k1 := fun M => F_L_law G n (nI (6 * j) + 6) M) (bad := fun M => zck (zbo 0) (zI 0 M)) (by omega) ha hb
      obtain ⟨Mf, ef⟩ := ih' q' M' (by omega) a1 b1
      exact ⟨Mf, Eq.trans e ef⟩
    rw [zit_f c25]
    by_cases c26 : xs (6 * j) &&& 63 = 26
    · rw [zit_t c26]
      obtain ⟨q', M', hc, e, a1, b1⟩ := zd_forget o_forget (k1 := fun M => F_L_law G n (nI (6 * j) + 6) M) (bad := fun M => zck (zbo 0) (zI 0 M)) (by omega) ha hb
      obtain ⟨Mf, ef⟩ := ih' q' M' (by omega) a1 b1
      exact ⟨Mf, Eq.trans e ef⟩
    rw [zit_f c26]
    by_cases c27 : xs (6 * j) &&& 63 = 27
    · rw [zit_t c27]
      obtain ⟨q', M', hc, e, a1, b1⟩ := zd_sales o_sales (k1 := fun M => F_L_law G n (nI (6 * j) + 6) M) (bad := fun M => zck (zbo 0) (zI 0 M)) (by omega) ha hb
      obtain ⟨Mf, ef⟩ := ih' q' M' (by omega) a1 b1
      exact ⟨Mf, Eq.trans e ef⟩
    rw [zit_f c27]
    by_cases c28 : xs (6 * j) &&& 63 = 28
    · rw [zit_t c28]
      obtain ⟨q', M', hc, e, a1, b1⟩ := zd_look o_look (k1 := fun M => F_L_law G n (nI (6 * j) + 6) M) (bad := fun M => zck (zbo 0) (zI 0 M)) (by omega) ha hb
      obtain ⟨Mf, ef⟩ := ih' q' M' (by omega) a1 b1
      exact ⟨Mf, Eq.trans e ef⟩
    rw [zit_f c28]
    by_cases c29 : xs (6 * j) &&& 63 = 29
    · rw [zit_t c29]
      obtain ⟨q', M', hc, e, a1, b1⟩ := zd_clerks o_clerks (k1 := fun M => F_L_law G n (nI (6 * j) + 6) M) (bad := fun M => zck (zbo 0) (zI 0 M)) (by omega) ha hb
      obtain ⟨Mf, ef⟩ := ih' q' M' (by omega) a1 b1
      exact ⟨Mf, Eq.trans e ef⟩
    rw [zit_f c29]
    by_cases c30 : xs (6 * j) &&& 63 = 30
    · rw [zit_t c30]
      obtain ⟨q', M', hc, e, a1, b1⟩ := zd_century o_century (k1 := fun M => F_L_law G n (nI (6 * j) + 6) M) (bad := fun M => zck (zbo 0) (zI 0 M)) (by omega) ha hb
      obtain ⟨Mf, ef⟩ := ih' q' M' (by omega) a1 b1
      exact ⟨Mf, Eq.trans e ef⟩
    rw [zit_f c30]
    by_cases c31 : xs (6 * j) &&& 63 = 31
    · rw [zit_t c31]
      obtain ⟨q', M', hc, e, a1, b1⟩ := zd_weather o_weather (k1 := fun M => F_L_law G n (nI (6 * j) + 6) M) (bad := fun M => zck (zbo 0) (zI 0 M)) (by omega) ha hb
      obtain ⟨Mf, ef⟩ := ih' q' M' (by omega) a1 b1
      exact ⟨Mf, Eq.trans e ef⟩
    rw [zit_f c31]
    by_cases c32 : xs (6 * j) &&& 63 = 32
    · rw [zit_t c32]
      obtain ⟨q', M', hc, e, a1, b1⟩ := zd_owed o_owed (k1 := fun M => F_L_law G n (nI (6 * j) + 6) M) (bad := fun M => zck (zbo 0) (zI 0 M)) (by omega) ha hb
      obtain ⟨Mf, ef⟩ := ih' q' M' (by omega) a1 b1
      exact ⟨Mf, Eq.trans e ef⟩
    rw [zit_f c32]
    by_cases c33 : xs (6 * j) &&& 63 = 33
    · rw [zit_t c33]
      obtain ⟨q', M', hc, e, a1, b1⟩ := zd_caravan o_caravan (k1 := fun M => F_L_law G n (nI (6 * j) + 6) M) (bad := fun M => zck (zbo 0) (zI 0 M)) (by omega) ha hb
      obtain ⟨Mf, ef⟩ := ih' q' M' (by omega) a1 b1
      exact ⟨Mf, Eq.trans e ef⟩
    rw [zit_f c33]
    by_cases c34 : xs (6 * j) &&& 63 = 34
    · rw [zit_t c34]
      obtain ⟨q', M', hc, e, a1, b1⟩ := zd_image o_image (k1 := fun M => F_L_law G n (nI (6 * j) + 6) M) (bad := fun M => zck (zbo 0) (zI 0 M)) (by omega) ha hb
      obtain ⟨Mf, ef⟩ := ih' q' M' (by omega) a1 b1
      exact ⟨Mf, Eq.trans e ef⟩
    rw [zit_f c34]
    by_cases c35 : xs (6 * j) &&& 63 = 35
    · rw [zit_t c35]
      obtain ⟨q', M', hc, e, a1, b1⟩ := zd_restore o_restore (k1 := fun M => F_L_law G n (nI (6 * j) + 6) M) (bad := fun M => zck (zbo 0) (zI 0 M)) (by omega) ha hb
      obtain ⟨Mf, ef⟩ := ih' q' M' (by omega) a1 b1
      exact ⟨Mf, Eq.trans e ef⟩
    rw [zit_f c35]
    exact ih' q M (by omega) ha hb
