/-! THE PURE PART: how F functions are reckoned -/
theorem gr_0_0 : zgr 0 0 = 1 := by decide +kernel
theorem gr_0_1 : zgr 0 1 = 3 := by decide +kernel
theorem gr_0_2 : zgr 0 2 = 21 := by decide +kernel
theorem gr_0_3 : zgr 0 3 = 39 := by decide +kernel
theorem gr_0_4 : zgr 0 4 = 40 := by decide +kernel
theorem gr_0_5 : zgr 0 5 = 43 := by decide +kernel
theorem gr_0_6 : zgr 0 6 = 46 := by decide +kernel
theorem gr_0_7 : zgr 0 7 = 49 := by decide +kernel
theorem gr_0_8 : zgr 0 8 = 56 := by decide +kernel
theorem gr_0_9 : zgr 0 9 = 63 := by decide +kernel
theorem gr_0_10 : zgr 0 10 = 67 := by decide +kernel
theorem gr_0_11 : zgr 0 11 = 69 := by decide +kernel
theorem gr_0_12 : zgr 0 12 = 73 := by decide +kernel
theorem gr_0_13 : zgr 0 13 = 78 := by decide +kernel
theorem gr_1_0 : zgr 1 0 = 2 := by decide +kernel
theorem gr_3_4 : zgr 3 4 = 4 := by decide +kernel
theorem gr_3_5 : zgr 3 5 = 9 := by decide +kernel
theorem gr_3_6 : zgr 3 6 = 13 := by decide +kernel
theorem gr_3_7 : zgr 3 7 = 14 := by decide +kernel
theorem gr_3_8 : zgr 3 8 = 15 := by decide +kernel
theorem gr_3_9 : zgr 3 9 = 16 := by decide +kernel
theorem gr_3_10 : zgr 3 10 = 17 := by decide +kernel
theorem gr_3_11 : zgr 3 11 = 18 := by decide +kernel
theorem gr_3_12 : zgr 3 12 = 19 := by decide +kernel
theorem gr_3_13 : zgr 3 13 = 20 := by decide +kernel
theorem gr_4_0 : zgr 4 0 = 5 := by decide +kernel
theorem gr_4_1 : zgr 4 1 = 6 := by decide +kernel
theorem gr_4_2 : zgr 4 2 = 7 := by decide +kernel
theorem gr_4_3 : zgr 4 3 = 8 := by decide +kernel
theorem gr_9_0 : zgr 9 0 = 10 := by decide +kernel
theorem gr_9_1 : zgr 9 1 = 11 := by decide +kernel
theorem gr_9_2 : zgr 9 2 = 12 := by decide +kernel
theorem gr_21_4 : zgr 21 4 = 22 := by decide +kernel
theorem gr_21_5 : zgr 21 5 = 27 := by decide +kernel
theorem gr_21_6 : zgr 21 6 = 31 := by decide +kernel
theorem gr_21_7 : zgr 21 7 = 32 := by decide +kernel
theorem gr_21_8 : zgr 21 8 = 33 := by decide +kernel
theorem gr_21_9 : zgr 21 9 = 34 := by decide +kernel
theorem gr_21_10 : zgr 21 10 = 35 := by decide +kernel
theorem gr_21_11 : zgr 21 11 = 36 := by decide +kernel
theorem gr_21_12 : zgr 21 12 = 37 := by decide +kernel
theorem gr_21_13 : zgr 21 13 = 38 := by decide +kernel
theorem gr_22_0 : zgr 22 0 = 23 := by decide +kernel
theorem gr_22_1 : zgr 22 1 = 24 := by decide +kernel
theorem gr_22_2 : zgr 22 2 = 25 := by decide +kernel
theorem gr_22_3 : zgr 22 3 = 26 := by decide +kernel
theorem gr_27_0 : zgr 27 0 = 28 := by decide +kernel
theorem gr_27_1 : zgr 27 1 = 29 := by decide +kernel
theorem gr_27_2 : zgr 27 2 = 30 := by decide +kernel
theorem gr_39_0 : zgr 39 0 = 1 := by decide +kernel
theorem gr_39_1 : zgr 39 1 = 21 := by decide +kernel
theorem gr_40_0 : zgr 40 0 = 3 := by decide +kernel
theorem gr_40_1 : zgr 40 1 = 41 := by decide +kernel
theorem gr_40_2 : zgr 40 2 = 42 := by decide +kernel
theorem gr_43_0 : zgr 43 0 = 3 := by decide +kernel
theorem gr_43_1 : zgr 43 1 = 44 := by decide +kernel
theorem gr_43_2 : zgr 43 2 = 45 := by decide +kernel
theorem gr_46_0 : zgr 46 0 = 3 := by decide +kernel
theorem gr_46_1 : zgr 46 1 = 47 := by decide +kernel
theorem gr_46_2 : zgr 46 2 = 48 := by decide +kernel
theorem gr_49_2 : zgr 49 2 = 50 := by decide +kernel
theorem gr_49_3 : zgr 49 3 = 51 := by decide +kernel
theorem gr_49_4 : zgr 49 4 = 52 := by decide +kernel
theorem gr_49_5 : zgr 49 5 = 53 := by decide +kernel
theorem gr_49_6 : zgr 49 6 = 54 := by decide +kernel
theorem gr_49_7 : zgr 49 7 = 55 := by decide +kernel
theorem gr_56_2 : zgr 56 2 = 57 := by decide +kernel
theorem gr_56_3 : zgr 56 3 = 58 := by decide +kernel
theorem gr_56_4 : zgr 56 4 = 59 := by decide +kernel
theorem gr_56_5 : zgr 56 5 = 60 := by decide +kernel
theorem gr_56_6 : zgr 56 6 = 61 := by decide +kernel
theorem gr_56_7 : zgr 56 7 = 62 := by decide +kernel
theorem gr_63_0 : zgr 63 0 = 3 := by decide +kernel
theorem gr_63_1 : zgr 63 1 = 40 := by decide +kernel
theorem gr_63_2 : zgr 63 2 = 64 := by decide +kernel
theorem gr_63_4 : zgr 63 4 = 65 := by decide +kernel
theorem gr_63_5 : zgr 63 5 = 66 := by decide +kernel
theorem gr_67_0 : zgr 67 0 = 40 := by decide +kernel
theorem gr_67_1 : zgr 67 1 = 68 := by decide +kernel
theorem gr_69_0 : zgr 69 0 = 40 := by decide +kernel
theorem gr_69_1 : zgr 69 1 = 67 := by decide +kernel
theorem gr_69_2 : zgr 69 2 = 70 := by decide +kernel
theorem gr_69_4 : zgr 69 4 = 71 := by decide +kernel
theorem gr_69_5 : zgr 69 5 = 72 := by decide +kernel
theorem gr_73_0 : zgr 73 0 = 40 := by decide +kernel
theorem gr_73_1 : zgr 73 1 = 67 := by decide +kernel
theorem gr_73_2 : zgr 73 2 = 49 := by decide +kernel
theorem gr_73_3 : zgr 73 3 = 74 := by decide +kernel
theorem gr_73_4 : zgr 73 4 = 75 := by decide +kernel
theorem gr_73_5 : zgr 73 5 = 76 := by decide +kernel
theorem gr_73_6 : zgr 73 6 = 77 := by decide +kernel
theorem gr_79_5 : zgr 79 5 = 80 := by decide +kernel
theorem gr_79_6 : zgr 79 6 = 81 := by decide +kernel
theorem gr_79_7 : zgr 79 7 = 82 := by decide +kernel
theorem gr_79_8 : zgr 79 8 = 83 := by decide +kernel
theorem gr_79_9 : zgr 79 9 = 84 := by decide +kernel
theorem gr_79_10 : zgr 79 10 = 85 := by decide +kernel
theorem gr_79_11 : zgr 79 11 = 86 := by decide +kernel
theorem gr_79_12 : zgr 79 12 = 87 := by decide +kernel
theorem gr_79_13 : zgr 79 13 = 88 := by decide +kernel
theorem gr_79_14 : zgr 79 14 = 89 := by decide +kernel
theorem gr_79_18 : zgr 79 18 = 90 := by decide +kernel
theorem gr_79_36 : zgr 79 36 = 91 := by decide +kernel
theorem gr_79_37 : zgr 79 37 = 92 := by decide +kernel
theorem gr_79_38 : zgr 79 38 = 93 := by decide +kernel
theorem gr_79_39 : zgr 79 39 = 94 := by decide +kernel
theorem gr_79_40 : zgr 79 40 = 95 := by decide +kernel
theorem gr_79_41 : zgr 79 41 = 96 := by decide +kernel
theorem gr_79_42 : zgr 79 42 = 97 := by decide +kernel
theorem gr_79_43 : zgr 79 43 = 98 := by decide +kernel
theorem gr_79_44 : zgr 79 44 = 99 := by decide +kernel
theorem gr_79_45 : zgr 79 45 = 100 := by decide +kernel
theorem gr_79_46 : zgr 79 46 = 101 := by decide +kernel
theorem gr_79_47 : zgr 79 47 = 102 := by decide +kernel
theorem gr_79_48 : zgr 79 48 = 103 := by decide +kernel
theorem gr_79_49 : zgr 79 49 = 104 := by decide +kernel
theorem gr_79_51 : zgr 79 51 = 105 := by decide +kernel
theorem gr_79_52 : zgr 79 52 = 106 := by decide +kernel
theorem gr_79_53 : zgr 79 53 = 107 := by decide +kernel
theorem gr_79_54 : zgr 79 54 = 108 := by decide +kernel
theorem gr_79_55 : zgr 79 55 = 109 := by decide +kernel
theorem gr_79_56 : zgr 79 56 = 110 := by decide +kernel
theorem gr_79_57 : zgr 79 57 = 111 := by decide +kernel
theorem gr_79_58 : zgr 79 58 = 112 := by decide +kernel
theorem gr_79_59 : zgr 79 59 = 113 := by decide +kernel
theorem gr_79_61 : zgr 79 61 = 114 := by decide +kernel
theorem gr_79_62 : zgr 79 62 = 115 := by decide +kernel
theorem gr_79_65 : zgr 79 65 = 116 := by decide +kernel
theorem gr_79_66 : zgr 79 66 = 117 := by decide +kernel
theorem gr_79_67 : zgr 79 67 = 118 := by decide +kernel
theorem gr_79_68 : zgr 79 68 = 119 := by decide +kernel
theorem gr_79_69 : zgr 79 69 = 120 := by decide +kernel
theorem gr_79_76 : zgr 79 76 = 121 := by decide +kernel
theorem gr_79_77 : zgr 79 77 = 122 := by decide +kernel
theorem gr_79_78 : zgr 79 78 = 123 := by decide +kernel
theorem zbI_I (r : Int32) (M : zM) (k : Int32 → zM → zO) : zbI (zI r M) k = k r M := rfl
theorem zbI_E (E : String) (M : zM) (k : Int32 → zM → zO) : zbI (zE E M) k = zE E M := rfl
theorem zbV_V (M : zM) (k : zM → zO) : zbV (zV M) k = k M := rfl
theorem zbV_E (E : String) (M : zM) (k : zM → zO) : zbV (zE E M) k = zE E M := rfl
theorem zbJ_J (r : Int64) (M : zM) (k : Int64 → zM → zO) : zbJ (zJ r M) k = k r M := rfl
theorem zbH_I (r : Int32) (M : zM) (k : Int32 → zM → zO) (h : String → zM → zO) : zbH (zI r M) k h = k r M := rfl
theorem zbH_E (E : String) (M : zM) (k : Int32 → zM → zO) (h : String → zM → zO) : zbH (zE E M) k h = h E M := rfl
theorem zlt_eq (e : Int32) (k : Int32 → zO) : zlt e k = k e := rfl
theorem zltL_eq (e : Int64) (k : Int64 → zO) : zltL e k = k e := rfl
theorem zst_eq (M : zM) (k : zM → zO) : zst M k = k M := rfl
theorem zjo_eq {α : Type} (K : α) (T : α → zO) : zjo K T = T K := rfl
theorem zck_t (x : zO) : zck true x = x := rfl
theorem zbo_0 : zbo 0 = true := by decide
theorem zbo_1 : zbo 1 = true := by decide
theorem zit_t {c : Prop} [Decidable c] {a b : zO} (h : c) : zit c a b = a := if_pos h
theorem zit_f {c : Prop} [Decidable c] {a b : zO} (h : ¬ c) : zit c a b = b := if_neg h
theorem zin_nI {k n : Nat} (h : k < n) (hn : n < 2 ^ 31) : zin (nI k) n = true := decide_eq_true (vp_in_nI h hn)
theorem zix_nI {k : Nat} (h : k < 2 ^ 31) : zix (nI k) = k := nI_clamp h
theorem zix8 {k : Nat} (h : k < 8) : zix (nI k) = k := nI_clamp (by omega)
theorem zix12 {k : Nat} (h : k < 12) : zix (nI k) = k := nI_clamp (by omega)
theorem zix64 {k : Nat} (h : k < 64) : zix (nI k) = k := nI_clamp (by omega)
theorem zix73 {k : Nat} (h : k < 73) : zix (nI k) = k := nI_clamp (by omega)
theorem zin8 {k : Nat} (h : k < 8) : zin (nI k) 8 = true := zin_nI h (by decide)
theorem zin12 {k : Nat} (h : k < 12) : zin (nI k) 12 = true := zin_nI h (by decide)
theorem zin64 {k : Nat} (h : k < 64) : zin (nI k) 64 = true := zin_nI h (by decide)
theorem zin73 {k : Nat} (h : k < 73) : zin (nI k) 73 = true := zin_nI h (by decide)
theorem nIl (n : Nat) : (OfNat.ofNat n : Int32) = nI n := rfl
/-- places of rows by eight -/
theorem ix8 (a b : Nat) : nI a * 8 + nI b = nI (a * 8 + b) := by
  rw [show (8 : Int32) = nI 8 from rfl, pk_mul, nI_add]
theorem ix8m (a b : Nat) : 8 + 8 * nI a + nI b = nI (8 + 8 * a + b) := by
  rw [show (8 : Int32) = nI 8 from rfl, pk_mul, nI_add, nI_add]
theorem ix9 (a b : Nat) : nI a * 9 + nI b = nI (a * 9 + b) := by
  rw [show (9 : Int32) = nI 9 from rfl, pk_mul, nI_add]
theorem ix9m (a b : Nat) : 9 * nI a + nI b = nI (9 * a + b) := by
  rw [show (9 : Int32) = nI 9 from rfl, pk_mul, nI_add]
theorem ix3 (f : Nat) : 3 * nI f = nI (3 * f) := by
  rw [show (3 : Int32) = nI 3 from rfl, pk_mul]
/-- the store -/
theorem zup_at (M : zM) (a k : Nat) (v : Int32) (i j : Nat) : zup M a k v i j = if i = a ∧ j = k then v else M i j := rfl
theorem zup_eq (M : zM) (a k : Nat) (v : Int32) : zup M a k v a k = v := by simp [zup]
/-- stores that are the same but for some cells -/
def zoff (S : List Nat) (M M' : zM) : Prop := ∀ i, i ∉ S → M' i = M i
theorem zoff_rfl {S : List Nat} {M : zM} : zoff S M M := fun _ _ => rfl
theorem zoff_trans {S : List Nat} {M M' M'' : zM} (h : zoff S M M') (h' : zoff S M' M'') : zoff S M M'' := fun i hi => (h' i hi).trans (h i hi)
theorem zoff_mono {S S' : List Nat} {M M' : zM} (h : zoff S M M') (hs : ∀ i ∈ S, i ∈ S') : zoff S' M M' := fun i hi => h i (fun z => hi (hs i z))
theorem zoff_up {S : List Nat} {M M' : zM} {a k : Nat} {v : Int32} (h : zoff S M M') (ha : a ∈ S) : zoff S M (zup M' a k v) := fun i hi => by
  rw [zup_ne (fun e => hi (by rw [e]; exact ha))]
  exact h i hi
theorem zoff_upA {S : List Nat} {M M' : zM} {a : Nat} {f : Nat → Int32} (h : zoff S M M') (ha : a ∈ S) : zoff S M (zupA M' a f) := fun i hi => by
  rw [zupA_ne (fun e => hi (by rw [e]; exact ha))]
  exact h i hi
/-- rounds enough -/
theorem zN_eq : zN = 999999 + 1 := rfl
theorem zN_ge {n : Nat} (h : n ≤ 100000) : n < zN := by unfold zN; omega
/-- texts' methods -/
theorem pj_coder (t : Nat) (M : zM) : F_J0_coder_7d493 t M = zI 0 M := by
  unfold F_J0_coder_7d493
  simp [zit, zck, zjo, znb]
  decide
theorem pj_lat (t : Nat) (M : zM) : F_J0_isLatin1_aae02 t M = zI 1 M := by
  unfold F_J0_isLatin1_aae02
  simp [zit, zck, zjo, zbo]
theorem pj_length (t : Nat) (M : zM) : F_J0_length_8abf5 t M = zI (zsL t) M := by
  unfold F_J0_length_8abf5
  rw [pj_coder, zbI_I, sb_shr0]
