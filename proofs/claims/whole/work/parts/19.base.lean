/-! the cells as the constructors lay them, by program (wip/tools/gen_base.py) -/
def sh0 : mj_S := [(11, 0), (10, 0), (15, 12), (17, 4), (3, 0), (13, 36), (3, 0), (13, 36), (3, 0), (13, 36), (13, 120), (13, 800), (13, 20), (13, 20), (13, 20), (2, 0), (2, 0), (2, 0), (2, 0), (2, 0), (2, 0), (2, 0), (2, 0), (2, 0), (2, 0), (2, 0), (2, 0), (7, 0), (13, 16), (13, 16), (13, 64), (13, 16), (13, 16), (13, 400), (7, 0), (13, 16), (13, 16), (13, 64), (13, 16), (13, 16), (13, 400), (7, 0), (13, 16), (13, 16), (13, 64), (13, 16), (13, 16), (13, 400), (7, 0), (13, 16), (13, 16), (13, 64), (13, 16), (13, 16), (13, 400), (5, 0), (16, 8), (18, 8), (13, 120), (13, 120), (13, 120), (13, 120), (13, 120), (13, 120), (13, 120), (13, 120), (13, 8), (13, 8), (14, 8), (3, 0), (13, 36), (3, 0), (13, 36), (3, 0), (13, 36), (3, 0), (13, 36), (3, 0), (13, 36), (3, 0), (13, 36), (3, 0), (13, 36), (3, 0), (13, 36), (9, 0), (13, 400), (4, 0), (13, 32), (7, 0), (13, 16), (13, 16), (13, 64), (13, 16), (13, 16), (13, 400), (0, 0), (3, 0), (13, 36), (13, 32), (13, 6), (8, 0), (3, 0), (13, 36), (3, 0), (13, 36), (3, 0), (13, 36), (3, 0), (13, 36), (1, 0), (3, 0), (13, 36), (14, 20), (14, 20), (13, 20), (6, 0), (16, 8), (13, 8), (13, 8), (3, 0), (13, 36), (3, 0), (13, 36), (3, 0), (13, 36), (3, 0), (13, 36), (3, 0), (13, 36), (3, 0), (13, 36), (3, 0), (13, 36), (3, 0), (13, 36), (3, 0), (13, 36), (13, 4), (12, 0), (13, 5280), (13, 5280), (13, 1272), (14, 8), (13, 80), (13, 820), (13, 400), (13, 420), (13, 7), (13, 36), (13, 36), (13, 36), (13, 20), (13, 1440), (13, 40), (13, 324), (13, 9), (13, 8), (13, 8)]
def cp_t (r0 r1 r2 r3 rs : Nat) (kp : Option Nat) : List (List (Option Nat)) := [[some 1, some 55, some 85, some 87, some 96, some 101, some 110, some 116, some 136, some 138, kp], [some 2, some 3, some 4, some 6, some 8, some 10, some 11, some 12, some 13, some 14], [some 15, some 16, some 17, some 18, some 19, some 20, some 21, some 22, some 23, some 24, some 25, some 26], [some r0, some r1, some r2, some r3], [some 5], [], [some 7], [], [some 9], [], [], [], [], [], [], [], [], [], [], [], [], [], [], [], [], [], [], [some 28, some 29, some 30, some 31, some 32, some 33], [], [], [], [], [], [], [some 35, some 36, some 37, some 38, some 39, some 40], [], [], [], [], [], [], [some 42, some 43, some 44, some 45, some 46, some 47], [], [], [], [], [], [], [some 49, some 50, some 51, some 52, some 53, some 54], [], [], [], [], [], [], [some 56, some 57, some 66, some 67, some 68], [some 69, some 71, some 73, some 75, some 77, some 79, some 81, some 83], [some 58, some 59, some 60, some 61, some 62, some 63, some 64, some 65], [], [], [], [], [], [], [], [], [], [], [], [some 70], [], [some 72], [], [some 74], [], [some 76], [], [some 78], [], [some 80], [], [some 82], [], [some 84], [], [some 86], [], [some 85, some 88, none, none, none, none, some rs], [], [some 90, some 91, some 92, some 93, some 94, some 95], [], [], [], [], [], [], [some 97, some 99, some 100], [some 98], [], [], [], [some 96, some 102, some 104, some 106, some 108], [some 103], [], [some 105], [], [some 107], [], [some 109], [], [some 96, some 111, some 113, some 114, some 115], [some 112], [], [], [], [], [some 96, some 117, some 118, some 119], [some 120, some 122, some 124, some 126, some 128, some 130, some 132, some 134], [], [], [some 121], [], [some 123], [], [some 125], [], [some 127], [], [some 129], [], [some 131], [], [some 133], [], [some 135], [], [some 137], [], [], [some 140, some 141, some 142, some 143, none, none, none, none, some 144, some 145, some 146, some 147, some 148, none, none, none, none, none, none, none, none, none, none, none, none, some 149, some 150, none, none, some 151, some 152, some 153, some 154, none, some 155, some 156, some 157, some 158], [], [], [], [], [], [], [], [], [], [], [], [], [], [], [], [], [], [], []]
/-- the references: as the table has them, else as P -/
def cp (P : mj_P) (r0 r1 r2 r3 rs : Nat) (kp : Option Nat) : mj_P := fun a k => match ((cp_t r0 r1 r2 r3 rs kp).getD a [])[k]? with
  | some v => v
  | none => P a k
theorem vpk {i : Int32} {n : Nat} (h1 : decide (0 ≤ i) = true) (h2 : Nat.blt i.toNatClampNeg n = true) : vp_in i n := by
  intro h
  rcases h with h | h
  · exact absurd h (Int32.not_lt.mpr (of_decide_eq_true h1))
  · have := Nat.le_of_ble_eq_true h2
    omega
theorem vpl {k n : Nat} (h : Nat.blt k n = true) (h2 : Nat.blt k 2147483648 = true) : vp_in (OfNat.ofNat k : Int32) n := by
  have h1 : k < n := Nat.le_of_ble_eq_true h
  have h3 : k < 2147483648 := Nat.le_of_ble_eq_true h2
  intro q
  have e : (OfNat.ofNat k : Int32) = nI k := rfl
  rw [e] at q
  rcases q with q | q
  · exact nI_pos h3 q
  · rw [nI_clamp h3] at q
    omega
theorem vpq {k n : Nat} (N : Nat) (hN : n = N) (h : k < N) (h2 : N < 2147483648) : vp_in (nI k) n := by rw [hN]; exact vp_in_nI h h2
/-- into a method: the steps F, the calls C -/
theorem mj_in2 {pr : Nat → Nat × List (Nat × mj_T)} {d y : Nat} {as : List Value} {lim : Nat × Nat} {sh : mj_S} {P : mj_P} {I : mj_I} {J : mj_J} {Q : mj_Q} (n : Nat) (T : List (Nat × mj_T)) (hT : pr y = (n, T)) (hs : Nat.ble (mj_sl as).length n = true)
    (h : ∀ (X : mj_X) (cr : mj_C), (∀ {y as lim sh P I J Q}, mj_ret pr d y as lim sh P I J Q → cr y as lim sh P I J Q) → (∀ pc L st u sh P I J, mj_lk pc T cr X Q lim L st u sh P I J → X pc L st u sh P I J) → X 0 (mj_ent n as) [] (0, 0) sh P I J) : mj_ret pr (d + 1) y as lim sh P I J Q :=
  mj_in n T hT hs (fun X F => h X (mj_ret pr d) (fun z => z) F)
theorem ln_2 (e : mj_S) : mj_ln (sh0 ++ e) 2 = 12 := rfl
theorem ln_3 (e : mj_S) : mj_ln (sh0 ++ e) 3 = 4 := rfl
theorem ln_5 (e : mj_S) : mj_ln (sh0 ++ e) 5 = 36 := rfl
theorem ln_7 (e : mj_S) : mj_ln (sh0 ++ e) 7 = 36 := rfl
theorem ln_9 (e : mj_S) : mj_ln (sh0 ++ e) 9 = 36 := rfl
theorem ln_10 (e : mj_S) : mj_ln (sh0 ++ e) 10 = 120 := rfl
theorem ln_11 (e : mj_S) : mj_ln (sh0 ++ e) 11 = 800 := rfl
theorem ln_12 (e : mj_S) : mj_ln (sh0 ++ e) 12 = 20 := rfl
theorem ln_13 (e : mj_S) : mj_ln (sh0 ++ e) 13 = 20 := rfl
theorem ln_14 (e : mj_S) : mj_ln (sh0 ++ e) 14 = 20 := rfl
theorem ln_28 (e : mj_S) : mj_ln (sh0 ++ e) 28 = 16 := rfl
theorem ln_29 (e : mj_S) : mj_ln (sh0 ++ e) 29 = 16 := rfl
theorem ln_30 (e : mj_S) : mj_ln (sh0 ++ e) 30 = 64 := rfl
theorem ln_31 (e : mj_S) : mj_ln (sh0 ++ e) 31 = 16 := rfl
theorem ln_32 (e : mj_S) : mj_ln (sh0 ++ e) 32 = 16 := rfl
theorem ln_33 (e : mj_S) : mj_ln (sh0 ++ e) 33 = 400 := rfl
theorem ln_35 (e : mj_S) : mj_ln (sh0 ++ e) 35 = 16 := rfl
theorem ln_36 (e : mj_S) : mj_ln (sh0 ++ e) 36 = 16 := rfl
theorem ln_37 (e : mj_S) : mj_ln (sh0 ++ e) 37 = 64 := rfl
theorem ln_38 (e : mj_S) : mj_ln (sh0 ++ e) 38 = 16 := rfl
theorem ln_39 (e : mj_S) : mj_ln (sh0 ++ e) 39 = 16 := rfl
theorem ln_40 (e : mj_S) : mj_ln (sh0 ++ e) 40 = 400 := rfl
theorem ln_42 (e : mj_S) : mj_ln (sh0 ++ e) 42 = 16 := rfl
theorem ln_43 (e : mj_S) : mj_ln (sh0 ++ e) 43 = 16 := rfl
theorem ln_44 (e : mj_S) : mj_ln (sh0 ++ e) 44 = 64 := rfl
theorem ln_45 (e : mj_S) : mj_ln (sh0 ++ e) 45 = 16 := rfl
theorem ln_46 (e : mj_S) : mj_ln (sh0 ++ e) 46 = 16 := rfl
theorem ln_47 (e : mj_S) : mj_ln (sh0 ++ e) 47 = 400 := rfl
theorem ln_49 (e : mj_S) : mj_ln (sh0 ++ e) 49 = 16 := rfl
theorem ln_50 (e : mj_S) : mj_ln (sh0 ++ e) 50 = 16 := rfl
theorem ln_51 (e : mj_S) : mj_ln (sh0 ++ e) 51 = 64 := rfl
theorem ln_52 (e : mj_S) : mj_ln (sh0 ++ e) 52 = 16 := rfl
theorem ln_53 (e : mj_S) : mj_ln (sh0 ++ e) 53 = 16 := rfl
theorem ln_54 (e : mj_S) : mj_ln (sh0 ++ e) 54 = 400 := rfl
theorem ln_56 (e : mj_S) : mj_ln (sh0 ++ e) 56 = 8 := rfl
theorem ln_57 (e : mj_S) : mj_ln (sh0 ++ e) 57 = 8 := rfl
theorem ln_58 (e : mj_S) : mj_ln (sh0 ++ e) 58 = 120 := rfl
theorem ln_59 (e : mj_S) : mj_ln (sh0 ++ e) 59 = 120 := rfl
theorem ln_60 (e : mj_S) : mj_ln (sh0 ++ e) 60 = 120 := rfl
theorem ln_61 (e : mj_S) : mj_ln (sh0 ++ e) 61 = 120 := rfl
theorem ln_62 (e : mj_S) : mj_ln (sh0 ++ e) 62 = 120 := rfl
theorem ln_63 (e : mj_S) : mj_ln (sh0 ++ e) 63 = 120 := rfl
theorem ln_64 (e : mj_S) : mj_ln (sh0 ++ e) 64 = 120 := rfl
theorem ln_65 (e : mj_S) : mj_ln (sh0 ++ e) 65 = 120 := rfl
theorem ln_66 (e : mj_S) : mj_ln (sh0 ++ e) 66 = 8 := rfl
theorem ln_67 (e : mj_S) : mj_ln (sh0 ++ e) 67 = 8 := rfl
theorem ln_68 (e : mj_S) : mj_ln (sh0 ++ e) 68 = 8 := rfl
theorem ln_70 (e : mj_S) : mj_ln (sh0 ++ e) 70 = 36 := rfl
theorem ln_72 (e : mj_S) : mj_ln (sh0 ++ e) 72 = 36 := rfl
theorem ln_74 (e : mj_S) : mj_ln (sh0 ++ e) 74 = 36 := rfl
theorem ln_76 (e : mj_S) : mj_ln (sh0 ++ e) 76 = 36 := rfl
theorem ln_78 (e : mj_S) : mj_ln (sh0 ++ e) 78 = 36 := rfl
theorem ln_80 (e : mj_S) : mj_ln (sh0 ++ e) 80 = 36 := rfl
theorem ln_82 (e : mj_S) : mj_ln (sh0 ++ e) 82 = 36 := rfl
theorem ln_84 (e : mj_S) : mj_ln (sh0 ++ e) 84 = 36 := rfl
theorem ln_86 (e : mj_S) : mj_ln (sh0 ++ e) 86 = 400 := rfl
theorem ln_88 (e : mj_S) : mj_ln (sh0 ++ e) 88 = 32 := rfl
theorem ln_90 (e : mj_S) : mj_ln (sh0 ++ e) 90 = 16 := rfl
theorem ln_91 (e : mj_S) : mj_ln (sh0 ++ e) 91 = 16 := rfl
theorem ln_92 (e : mj_S) : mj_ln (sh0 ++ e) 92 = 64 := rfl
theorem ln_93 (e : mj_S) : mj_ln (sh0 ++ e) 93 = 16 := rfl
theorem ln_94 (e : mj_S) : mj_ln (sh0 ++ e) 94 = 16 := rfl
theorem ln_95 (e : mj_S) : mj_ln (sh0 ++ e) 95 = 400 := rfl
theorem ln_98 (e : mj_S) : mj_ln (sh0 ++ e) 98 = 36 := rfl
theorem ln_99 (e : mj_S) : mj_ln (sh0 ++ e) 99 = 32 := rfl
theorem ln_100 (e : mj_S) : mj_ln (sh0 ++ e) 100 = 6 := rfl
theorem ln_103 (e : mj_S) : mj_ln (sh0 ++ e) 103 = 36 := rfl
theorem ln_105 (e : mj_S) : mj_ln (sh0 ++ e) 105 = 36 := rfl
theorem ln_107 (e : mj_S) : mj_ln (sh0 ++ e) 107 = 36 := rfl
theorem ln_109 (e : mj_S) : mj_ln (sh0 ++ e) 109 = 36 := rfl
theorem ln_112 (e : mj_S) : mj_ln (sh0 ++ e) 112 = 36 := rfl
theorem ln_113 (e : mj_S) : mj_ln (sh0 ++ e) 113 = 20 := rfl
theorem ln_114 (e : mj_S) : mj_ln (sh0 ++ e) 114 = 20 := rfl
theorem ln_115 (e : mj_S) : mj_ln (sh0 ++ e) 115 = 20 := rfl
theorem ln_117 (e : mj_S) : mj_ln (sh0 ++ e) 117 = 8 := rfl
theorem ln_118 (e : mj_S) : mj_ln (sh0 ++ e) 118 = 8 := rfl
theorem ln_119 (e : mj_S) : mj_ln (sh0 ++ e) 119 = 8 := rfl
theorem ln_121 (e : mj_S) : mj_ln (sh0 ++ e) 121 = 36 := rfl
theorem ln_123 (e : mj_S) : mj_ln (sh0 ++ e) 123 = 36 := rfl
theorem ln_125 (e : mj_S) : mj_ln (sh0 ++ e) 125 = 36 := rfl
theorem ln_127 (e : mj_S) : mj_ln (sh0 ++ e) 127 = 36 := rfl
theorem ln_129 (e : mj_S) : mj_ln (sh0 ++ e) 129 = 36 := rfl
theorem ln_131 (e : mj_S) : mj_ln (sh0 ++ e) 131 = 36 := rfl
theorem ln_133 (e : mj_S) : mj_ln (sh0 ++ e) 133 = 36 := rfl
theorem ln_135 (e : mj_S) : mj_ln (sh0 ++ e) 135 = 36 := rfl
theorem ln_137 (e : mj_S) : mj_ln (sh0 ++ e) 137 = 36 := rfl
theorem ln_138 (e : mj_S) : mj_ln (sh0 ++ e) 138 = 4 := rfl
theorem ln_140 (e : mj_S) : mj_ln (sh0 ++ e) 140 = 5280 := rfl
theorem ln_141 (e : mj_S) : mj_ln (sh0 ++ e) 141 = 5280 := rfl
theorem ln_142 (e : mj_S) : mj_ln (sh0 ++ e) 142 = 1272 := rfl
theorem ln_143 (e : mj_S) : mj_ln (sh0 ++ e) 143 = 8 := rfl
theorem ln_144 (e : mj_S) : mj_ln (sh0 ++ e) 144 = 80 := rfl
theorem ln_145 (e : mj_S) : mj_ln (sh0 ++ e) 145 = 820 := rfl
theorem ln_146 (e : mj_S) : mj_ln (sh0 ++ e) 146 = 400 := rfl
theorem ln_147 (e : mj_S) : mj_ln (sh0 ++ e) 147 = 420 := rfl
theorem ln_148 (e : mj_S) : mj_ln (sh0 ++ e) 148 = 7 := rfl
theorem ln_149 (e : mj_S) : mj_ln (sh0 ++ e) 149 = 36 := rfl
theorem ln_150 (e : mj_S) : mj_ln (sh0 ++ e) 150 = 36 := rfl
theorem ln_151 (e : mj_S) : mj_ln (sh0 ++ e) 151 = 36 := rfl
theorem ln_152 (e : mj_S) : mj_ln (sh0 ++ e) 152 = 20 := rfl
theorem ln_153 (e : mj_S) : mj_ln (sh0 ++ e) 153 = 1440 := rfl
theorem ln_154 (e : mj_S) : mj_ln (sh0 ++ e) 154 = 40 := rfl
theorem ln_155 (e : mj_S) : mj_ln (sh0 ++ e) 155 = 324 := rfl
theorem ln_156 (e : mj_S) : mj_ln (sh0 ++ e) 156 = 9 := rfl
theorem ln_157 (e : mj_S) : mj_ln (sh0 ++ e) 157 = 8 := rfl
theorem ln_158 (e : mj_S) : mj_ln (sh0 ++ e) 158 = 8 := rfl
