/-! constructors: the rest of the class -/
def agR (r : Nat → Option Nat) : Nat → List (Option Nat) → Prop
  | _, [] => True
  | j, v :: t => r j = v ∧ agR r (j + 1) t
def agT (P : mj_P) : Nat → List (List (Option Nat)) → Prop
  | _, [] => True
  | a, l :: t => agR (P a) 0 l ∧ agT P (a + 1) t
def FR (a : Nat) (P : mj_P) (I : mj_I) (J : mj_J) (P' : mj_P) (I' : mj_I) (J' : mj_J) : Prop := ∀ b, b < a → P' b = P b ∧ I' b = I b ∧ J' b = J b
theorem mj_z_row (I : mj_I) {n b : Nat} (h : b < n) : mj_z I n b = I b := by
  funext j
  unfold mj_z
  rw [if_neg (by omega)]
theorem tkL {c : Nat} (h : c ≤ 159) : (sh0.take c).length = c := by
  rw [List.length_take, show sh0.length = 159 from rfl]
  omega
theorem tkS {c : Nat} {x : Nat × Nat} (h : sh0[c]? = some x) : sh0.take c ++ [x] = sh0.take (c + 1) := by
  rw [List.take_add_one, h]
  rfl
theorem tq_55 : sh0.take 55 ++ [(5, 0)] = sh0.take 56 := tkS rfl
theorem tq_56 : sh0.take 56 ++ [(16, 8)] = sh0.take 57 := tkS rfl
theorem tq_57 : sh0.take 57 ++ [(18, 8)] = sh0.take 58 := tkS rfl
theorem tq_58 : sh0.take 58 ++ [(13, 120)] = sh0.take 59 := tkS rfl
theorem tq_59 : sh0.take 59 ++ [(13, 120)] = sh0.take 60 := tkS rfl
theorem tq_60 : sh0.take 60 ++ [(13, 120)] = sh0.take 61 := tkS rfl
theorem tq_61 : sh0.take 61 ++ [(13, 120)] = sh0.take 62 := tkS rfl
theorem tq_62 : sh0.take 62 ++ [(13, 120)] = sh0.take 63 := tkS rfl
theorem tq_63 : sh0.take 63 ++ [(13, 120)] = sh0.take 64 := tkS rfl
theorem tq_64 : sh0.take 64 ++ [(13, 120)] = sh0.take 65 := tkS rfl
theorem tq_65 : sh0.take 65 ++ [(13, 120)] = sh0.take 66 := tkS rfl
theorem tq_66 : sh0.take 66 ++ [(13, 8)] = sh0.take 67 := tkS rfl
theorem tq_67 : sh0.take 67 ++ [(13, 8)] = sh0.take 68 := tkS rfl
theorem tq_68 : sh0.take 68 ++ [(14, 8)] = sh0.take 69 := tkS rfl
theorem tq_69 : sh0.take 69 ++ [(3, 0)] = sh0.take 70 := tkS rfl
theorem tq_70 : sh0.take 70 ++ [(13, 36)] = sh0.take 71 := tkS rfl
theorem tq_71 : sh0.take 71 ++ [(3, 0)] = sh0.take 72 := tkS rfl
theorem tq_72 : sh0.take 72 ++ [(13, 36)] = sh0.take 73 := tkS rfl
theorem tq_73 : sh0.take 73 ++ [(3, 0)] = sh0.take 74 := tkS rfl
theorem tq_74 : sh0.take 74 ++ [(13, 36)] = sh0.take 75 := tkS rfl
theorem tq_75 : sh0.take 75 ++ [(3, 0)] = sh0.take 76 := tkS rfl
theorem tq_76 : sh0.take 76 ++ [(13, 36)] = sh0.take 77 := tkS rfl
theorem tq_77 : sh0.take 77 ++ [(3, 0)] = sh0.take 78 := tkS rfl
theorem tq_78 : sh0.take 78 ++ [(13, 36)] = sh0.take 79 := tkS rfl
theorem tq_79 : sh0.take 79 ++ [(3, 0)] = sh0.take 80 := tkS rfl
theorem tq_80 : sh0.take 80 ++ [(13, 36)] = sh0.take 81 := tkS rfl
theorem tq_81 : sh0.take 81 ++ [(3, 0)] = sh0.take 82 := tkS rfl
theorem tq_82 : sh0.take 82 ++ [(13, 36)] = sh0.take 83 := tkS rfl
theorem tq_83 : sh0.take 83 ++ [(3, 0)] = sh0.take 84 := tkS rfl
theorem tq_84 : sh0.take 84 ++ [(13, 36)] = sh0.take 85 := tkS rfl
theorem tq_85 : sh0.take 85 ++ [(9, 0)] = sh0.take 86 := tkS rfl
theorem tq_86 : sh0.take 86 ++ [(13, 400)] = sh0.take 87 := tkS rfl
theorem tq_87 : sh0.take 87 ++ [(4, 0)] = sh0.take 88 := tkS rfl
theorem tq_88 : sh0.take 88 ++ [(13, 32)] = sh0.take 89 := tkS rfl
theorem tq_89 : sh0.take 89 ++ [(7, 0)] = sh0.take 90 := tkS rfl
theorem tq_90 : sh0.take 90 ++ [(13, 16)] = sh0.take 91 := tkS rfl
theorem tq_91 : sh0.take 91 ++ [(13, 16)] = sh0.take 92 := tkS rfl
theorem tq_92 : sh0.take 92 ++ [(13, 64)] = sh0.take 93 := tkS rfl
theorem tq_93 : sh0.take 93 ++ [(13, 16)] = sh0.take 94 := tkS rfl
theorem tq_94 : sh0.take 94 ++ [(13, 16)] = sh0.take 95 := tkS rfl
theorem tq_95 : sh0.take 95 ++ [(13, 400)] = sh0.take 96 := tkS rfl
theorem tq_96 : sh0.take 96 ++ [(0, 0)] = sh0.take 97 := tkS rfl
theorem tq_97 : sh0.take 97 ++ [(3, 0)] = sh0.take 98 := tkS rfl
theorem tq_98 : sh0.take 98 ++ [(13, 36)] = sh0.take 99 := tkS rfl
theorem tq_99 : sh0.take 99 ++ [(13, 32)] = sh0.take 100 := tkS rfl
theorem tq_100 : sh0.take 100 ++ [(13, 6)] = sh0.take 101 := tkS rfl
theorem tq_101 : sh0.take 101 ++ [(8, 0)] = sh0.take 102 := tkS rfl
theorem tq_102 : sh0.take 102 ++ [(3, 0)] = sh0.take 103 := tkS rfl
theorem tq_103 : sh0.take 103 ++ [(13, 36)] = sh0.take 104 := tkS rfl
theorem tq_104 : sh0.take 104 ++ [(3, 0)] = sh0.take 105 := tkS rfl
theorem tq_105 : sh0.take 105 ++ [(13, 36)] = sh0.take 106 := tkS rfl
theorem tq_106 : sh0.take 106 ++ [(3, 0)] = sh0.take 107 := tkS rfl
theorem tq_107 : sh0.take 107 ++ [(13, 36)] = sh0.take 108 := tkS rfl
theorem tq_108 : sh0.take 108 ++ [(3, 0)] = sh0.take 109 := tkS rfl
theorem tq_109 : sh0.take 109 ++ [(13, 36)] = sh0.take 110 := tkS rfl
theorem tq_110 : sh0.take 110 ++ [(1, 0)] = sh0.take 111 := tkS rfl
theorem tq_111 : sh0.take 111 ++ [(3, 0)] = sh0.take 112 := tkS rfl
theorem tq_112 : sh0.take 112 ++ [(13, 36)] = sh0.take 113 := tkS rfl
theorem tq_113 : sh0.take 113 ++ [(14, 20)] = sh0.take 114 := tkS rfl
theorem tq_114 : sh0.take 114 ++ [(14, 20)] = sh0.take 115 := tkS rfl
theorem tq_115 : sh0.take 115 ++ [(13, 20)] = sh0.take 116 := tkS rfl
theorem tq_116 : sh0.take 116 ++ [(6, 0)] = sh0.take 117 := tkS rfl
theorem tq_117 : sh0.take 117 ++ [(16, 8)] = sh0.take 118 := tkS rfl
theorem tq_118 : sh0.take 118 ++ [(13, 8)] = sh0.take 119 := tkS rfl
theorem tq_119 : sh0.take 119 ++ [(13, 8)] = sh0.take 120 := tkS rfl
theorem tq_120 : sh0.take 120 ++ [(3, 0)] = sh0.take 121 := tkS rfl
theorem tq_121 : sh0.take 121 ++ [(13, 36)] = sh0.take 122 := tkS rfl
theorem tq_122 : sh0.take 122 ++ [(3, 0)] = sh0.take 123 := tkS rfl
theorem tq_123 : sh0.take 123 ++ [(13, 36)] = sh0.take 124 := tkS rfl
theorem tq_124 : sh0.take 124 ++ [(3, 0)] = sh0.take 125 := tkS rfl
theorem tq_125 : sh0.take 125 ++ [(13, 36)] = sh0.take 126 := tkS rfl
theorem tq_126 : sh0.take 126 ++ [(3, 0)] = sh0.take 127 := tkS rfl
theorem tq_127 : sh0.take 127 ++ [(13, 36)] = sh0.take 128 := tkS rfl
theorem tq_128 : sh0.take 128 ++ [(3, 0)] = sh0.take 129 := tkS rfl
theorem tq_129 : sh0.take 129 ++ [(13, 36)] = sh0.take 130 := tkS rfl
theorem tq_130 : sh0.take 130 ++ [(3, 0)] = sh0.take 131 := tkS rfl
theorem tq_131 : sh0.take 131 ++ [(13, 36)] = sh0.take 132 := tkS rfl
theorem tq_132 : sh0.take 132 ++ [(3, 0)] = sh0.take 133 := tkS rfl
theorem tq_133 : sh0.take 133 ++ [(13, 36)] = sh0.take 134 := tkS rfl
theorem tq_134 : sh0.take 134 ++ [(3, 0)] = sh0.take 135 := tkS rfl
theorem tq_135 : sh0.take 135 ++ [(13, 36)] = sh0.take 136 := tkS rfl
theorem tq_136 : sh0.take 136 ++ [(3, 0)] = sh0.take 137 := tkS rfl
theorem tq_137 : sh0.take 137 ++ [(13, 36)] = sh0.take 138 := tkS rfl
theorem tq_138 : sh0.take 138 ++ [(13, 4)] = sh0.take 139 := tkS rfl
theorem tq_139 : sh0.take 139 ++ [(12, 0)] = sh0.take 140 := tkS rfl
theorem tq_140 : sh0.take 140 ++ [(13, 5280)] = sh0.take 141 := tkS rfl
theorem tq_141 : sh0.take 141 ++ [(13, 5280)] = sh0.take 142 := tkS rfl
theorem tq_142 : sh0.take 142 ++ [(13, 1272)] = sh0.take 143 := tkS rfl
theorem tq_143 : sh0.take 143 ++ [(14, 8)] = sh0.take 144 := tkS rfl
theorem tq_144 : sh0.take 144 ++ [(13, 80)] = sh0.take 145 := tkS rfl
theorem tq_145 : sh0.take 145 ++ [(13, 820)] = sh0.take 146 := tkS rfl
theorem tq_146 : sh0.take 146 ++ [(13, 400)] = sh0.take 147 := tkS rfl
theorem tq_147 : sh0.take 147 ++ [(13, 420)] = sh0.take 148 := tkS rfl
theorem tq_148 : sh0.take 148 ++ [(13, 7)] = sh0.take 149 := tkS rfl
theorem tq_149 : sh0.take 149 ++ [(13, 36)] = sh0.take 150 := tkS rfl
theorem tq_150 : sh0.take 150 ++ [(13, 36)] = sh0.take 151 := tkS rfl
theorem tq_151 : sh0.take 151 ++ [(13, 36)] = sh0.take 152 := tkS rfl
theorem tq_152 : sh0.take 152 ++ [(13, 20)] = sh0.take 153 := tkS rfl
theorem tq_153 : sh0.take 153 ++ [(13, 1440)] = sh0.take 154 := tkS rfl
theorem tq_154 : sh0.take 154 ++ [(13, 40)] = sh0.take 155 := tkS rfl
theorem tq_155 : sh0.take 155 ++ [(13, 324)] = sh0.take 156 := tkS rfl
theorem tq_156 : sh0.take 156 ++ [(13, 9)] = sh0.take 157 := tkS rfl
theorem tq_157 : sh0.take 157 ++ [(13, 8)] = sh0.take 158 := tkS rfl
theorem tq_158 : sh0.take 158 ++ [(13, 8)] = sh0.take 159 := tkS rfl
theorem tq_m : sh0.take 57 ++ (18, 8) :: List.replicate 8 (13, 120) = sh0.take 66 := rfl
theorem Me_at {d : Nat} {P : mj_P} {I : mj_I} {J : mj_J} {Q : mj_Q} {c : Nat} (h1 : mj_kd (sh0.take (c + 1)) c = 3) (h2 : mj_kd (sh0.take (c + 2)) c = 3) (h3 : sh0.take (c + 1) ++ [(13, 36)] = sh0.take (c + 2)) (h4 : (sh0.take (c + 1)).length = c + 1) (hQ : Q none (sh0.take (c + 2)) (mj_u P c 0 (some (c + 1))) (mj_u (mj_w I (c + 1) (fun _ => 0)) c 1 0) J) : mj_ret mj_pr (d + 1) n_Message_init [.ref c] (1, 36) (sh0.take (c + 1)) P I J Q := by
  refine mj_in2 1 t_Message_init rfl rfl (fun X cr C F => ?_)
  (repeat (first | (apply F; conv => whnf) | (refine ⟨rfl, ?_⟩) | (refine ⟨vpk (by decide) ?_, ?_⟩; rfl) | (refine ⟨by assumption, ?_⟩) | (refine ⟨by decide, ?_⟩) | (refine ⟨fun h => absurd h (by decide), fun _ => ?_⟩) | (refine ⟨fun _ => ?_, fun h => absurd (by decide) h⟩) | (refine ⟨fun h => absurd (by decide) h, fun _ => ?_⟩) | (refine ⟨fun _ => ?_, fun h => absurd h (by decide)⟩) | (refine ⟨⟨Nat.le_of_ble_eq_true rfl, Nat.le_of_ble_eq_true rfl⟩, ?_⟩) | (simp (disch := omega) only [nI_clamp, clL, nI_1, nI_add, pk_mul, ni_aL, ni_aR, ni_mL, ni_mR, ni_sR, ni_sb, ni_m1, ni_dv, mj_u_eq, mj_u_ne1, mj_u_ne2]; try (conv => whnf)) | (refine ⟨vpq _ rfl (by omega) (by omega), ?_⟩) | (refine ⟨fun h => absurd h (by (simp (disch := omega) only [nI_1, nI_add, nI_leI, nI_ltI, nI_eq, ni_ltR, ni_ltL, ni_leR, ni_leL, ni_eqR, ni_eqL, ni_nm, ni_nm2, not_false_eq_true]; first | done | omega)), fun _ => ?_⟩) | (refine ⟨fun _ => ?_, fun h => absurd (by (simp (disch := omega) only [nI_1, nI_add, nI_leI, nI_ltI, nI_eq, ni_ltR, ni_ltL, ni_leR, ni_leL, ni_eqR, ni_eqL, ni_nm, ni_nm2, not_false_eq_true]; first | done | omega)) h⟩) | (refine ⟨fun h => absurd (by (simp (disch := omega) only [nI_1, nI_add, nI_leI, nI_ltI, nI_eq, ni_ltR, ni_ltL, ni_leR, ni_leL, ni_eqR, ni_eqL, ni_nm, ni_nm2, not_false_eq_true]; first | done | omega)) h, fun _ => ?_⟩) | (refine ⟨fun _ => ?_, fun h => absurd h (by (simp (disch := omega) only [nI_1, nI_add, nI_leI, nI_ltI, nI_eq, ni_ltR, ni_ltL, ni_leR, ni_leL, ni_eqR, ni_eqL, ni_nm, ni_nm2, not_false_eq_true]; first | done | omega))⟩) | fail))
  rw [h4, h3]
  refine ⟨h2, ?_⟩
  (repeat (first | (apply F; conv => whnf) | (refine ⟨rfl, ?_⟩) | (refine ⟨vpk (by decide) ?_, ?_⟩; rfl) | (refine ⟨by assumption, ?_⟩) | (refine ⟨by decide, ?_⟩) | (refine ⟨fun h => absurd h (by decide), fun _ => ?_⟩) | (refine ⟨fun _ => ?_, fun h => absurd (by decide) h⟩) | (refine ⟨fun h => absurd (by decide) h, fun _ => ?_⟩) | (refine ⟨fun _ => ?_, fun h => absurd h (by decide)⟩) | (refine ⟨⟨Nat.le_of_ble_eq_true rfl, Nat.le_of_ble_eq_true rfl⟩, ?_⟩) | (simp (disch := omega) only [nI_clamp, clL, nI_1, nI_add, pk_mul, ni_aL, ni_aR, ni_mL, ni_mR, ni_sR, ni_sb, ni_m1, ni_dv, mj_u_eq, mj_u_ne1, mj_u_ne2]; try (conv => whnf)) | (refine ⟨vpq _ rfl (by omega) (by omega), ?_⟩) | (refine ⟨fun h => absurd h (by (simp (disch := omega) only [nI_1, nI_add, nI_leI, nI_ltI, nI_eq, ni_ltR, ni_ltL, ni_leR, ni_leL, ni_eqR, ni_eqL, ni_nm, ni_nm2, not_false_eq_true]; first | done | omega)), fun _ => ?_⟩) | (refine ⟨fun _ => ?_, fun h => absurd (by (simp (disch := omega) only [nI_1, nI_add, nI_leI, nI_ltI, nI_eq, ni_ltR, ni_ltL, ni_leR, ni_leL, ni_eqR, ni_eqL, ni_nm, ni_nm2, not_false_eq_true]; first | done | omega)) h⟩) | (refine ⟨fun h => absurd (by (simp (disch := omega) only [nI_1, nI_add, nI_leI, nI_ltI, nI_eq, ni_ltR, ni_ltL, ni_leR, ni_leL, ni_eqR, ni_eqL, ni_nm, ni_nm2, not_false_eq_true]; first | done | omega)) h, fun _ => ?_⟩) | (refine ⟨fun _ => ?_, fun h => absurd h (by (simp (disch := omega) only [nI_1, nI_add, nI_leI, nI_ltI, nI_eq, ni_ltR, ni_ltL, ni_leR, ni_leL, ni_eqR, ni_eqL, ni_nm, ni_nm2, not_false_eq_true]; first | done | omega))⟩) | fail))
  exact hQ
set_option maxHeartbeats 4000000 in
theorem K_Tape {d : Nat} {P : mj_P} {I : mj_I} {J : mj_J} {Q : mj_Q} (hQ : ∀ P' I' J', FR 85 P I J P' I' J' → agT P' 85 [[some 86], []] → I' 85 1 = 0 → Q none (sh0.take 87) P' I' J') : mj_ret mj_pr (d + 2) n_Tape_init [.ref 85] (1, 400) (sh0.take 86) P I J Q := by
  refine mj_in2 1 t_Tape_init rfl rfl (fun X cr C F => ?_)
  (repeat (first | (apply F; conv => whnf) | (refine ⟨rfl, ?_⟩) | (refine ⟨vpk (by decide) ?_, ?_⟩; rfl) | (refine ⟨by assumption, ?_⟩) | (refine ⟨by decide, ?_⟩) | (refine ⟨fun h => absurd h (by decide), fun _ => ?_⟩) | (refine ⟨fun _ => ?_, fun h => absurd (by decide) h⟩) | (refine ⟨fun h => absurd (by decide) h, fun _ => ?_⟩) | (refine ⟨fun _ => ?_, fun h => absurd h (by decide)⟩) | (refine ⟨⟨Nat.le_of_ble_eq_true rfl, Nat.le_of_ble_eq_true rfl⟩, ?_⟩) | (simp (disch := omega) only [nI_clamp, clL, nI_1, nI_add, pk_mul, ni_aL, ni_aR, ni_mL, ni_mR, ni_sR, ni_sb, ni_m1, ni_dv, mj_u_eq, mj_u_ne1, mj_u_ne2, Nat.reduceAdd, tkL, tq_86]; try (conv => whnf)) | (refine ⟨vpq _ rfl (by omega) (by omega), ?_⟩) | (refine ⟨fun h => absurd h (by (simp (disch := omega) only [nI_1, nI_add, nI_leI, nI_ltI, nI_eq, ni_ltR, ni_ltL, ni_leR, ni_leL, ni_eqR, ni_eqL, ni_nm, ni_nm2, not_false_eq_true]; first | done | omega)), fun _ => ?_⟩) | (refine ⟨fun _ => ?_, fun h => absurd (by (simp (disch := omega) only [nI_1, nI_add, nI_leI, nI_ltI, nI_eq, ni_ltR, ni_ltL, ni_leR, ni_leL, ni_eqR, ni_eqL, ni_nm, ni_nm2, not_false_eq_true]; first | done | omega)) h⟩) | (refine ⟨fun h => absurd (by (simp (disch := omega) only [nI_1, nI_add, nI_leI, nI_ltI, nI_eq, ni_ltR, ni_ltL, ni_leR, ni_leL, ni_eqR, ni_eqL, ni_nm, ni_nm2, not_false_eq_true]; first | done | omega)) h, fun _ => ?_⟩) | (refine ⟨fun _ => ?_, fun h => absurd h (by (simp (disch := omega) only [nI_1, nI_add, nI_leI, nI_ltI, nI_eq, ni_ltR, ni_ltL, ni_leR, ni_leL, ni_eqR, ni_eqL, ni_nm, ni_nm2, not_false_eq_true]; first | done | omega))⟩) | (refine C (Me_at rfl rfl rfl rfl ?_)) | (refine ⟨nb_bz, ?_⟩) | (refine ⟨fun _ => ?_, fun h => absurd (by assumption) h⟩) | (refine ⟨fun h => absurd h (by assumption), fun _ => ?_⟩) | (refine ⟨fun h => absurd (by assumption) h, fun _ => ?_⟩) | (refine ⟨fun _ => ?_, fun h => absurd h (by assumption)⟩) | fail))
  refine hQ _ _ _ (fun b hb => ⟨?_, ?_, ?_⟩) ?_ ?_
  · first | rfl | simp (disch := omega) only [Nat.reduceAdd, tkL, tq_86, mj_u_row, mj_w_row, mj_z_row]
  · first | rfl | simp (disch := omega) only [Nat.reduceAdd, tkL, tq_86, mj_u_row, mj_w_row, mj_z_row]
  · first | rfl | simp (disch := omega) only [Nat.reduceAdd, tkL, tq_86, mj_u_row, mj_w_row, mj_z_row]
  · simp only [agT, agR]
    repeat' (first | exact True.intro | exact rfl | refine ⟨?_, ?_⟩)
  · rfl
set_option maxHeartbeats 4000000 in
theorem K_Clerk {d : Nat} {P : mj_P} {I : mj_I} {J : mj_J} {Q : mj_Q} (hQ : ∀ P' I' J', FR 96 P I J P' I' J' → agT P' 96 [[some 97, some 99, some 100], [some 98], [], [], []] → Q none (sh0.take 101) P' I' J') : mj_ret mj_pr (d + 2) n_Clerk_init [.ref 96] (4, 76) (sh0.take 97) P I J Q := by
  refine mj_in2 1 t_Clerk_init rfl rfl (fun X cr C F => ?_)
  (repeat (first | (apply F; conv => whnf) | (refine ⟨rfl, ?_⟩) | (refine ⟨vpk (by decide) ?_, ?_⟩; rfl) | (refine ⟨by assumption, ?_⟩) | (refine ⟨by decide, ?_⟩) | (refine ⟨fun h => absurd h (by decide), fun _ => ?_⟩) | (refine ⟨fun _ => ?_, fun h => absurd (by decide) h⟩) | (refine ⟨fun h => absurd (by decide) h, fun _ => ?_⟩) | (refine ⟨fun _ => ?_, fun h => absurd h (by decide)⟩) | (refine ⟨⟨Nat.le_of_ble_eq_true rfl, Nat.le_of_ble_eq_true rfl⟩, ?_⟩) | (simp (disch := omega) only [nI_clamp, clL, nI_1, nI_add, pk_mul, ni_aL, ni_aR, ni_mL, ni_mR, ni_sR, ni_sb, ni_m1, ni_dv, mj_u_eq, mj_u_ne1, mj_u_ne2, Nat.reduceAdd, tkL, tq_97, tq_98, tq_99, tq_100]; try (conv => whnf)) | (refine ⟨vpq _ rfl (by omega) (by omega), ?_⟩) | (refine ⟨fun h => absurd h (by (simp (disch := omega) only [nI_1, nI_add, nI_leI, nI_ltI, nI_eq, ni_ltR, ni_ltL, ni_leR, ni_leL, ni_eqR, ni_eqL, ni_nm, ni_nm2, not_false_eq_true]; first | done | omega)), fun _ => ?_⟩) | (refine ⟨fun _ => ?_, fun h => absurd (by (simp (disch := omega) only [nI_1, nI_add, nI_leI, nI_ltI, nI_eq, ni_ltR, ni_ltL, ni_leR, ni_leL, ni_eqR, ni_eqL, ni_nm, ni_nm2, not_false_eq_true]; first | done | omega)) h⟩) | (refine ⟨fun h => absurd (by (simp (disch := omega) only [nI_1, nI_add, nI_leI, nI_ltI, nI_eq, ni_ltR, ni_ltL, ni_leR, ni_leL, ni_eqR, ni_eqL, ni_nm, ni_nm2, not_false_eq_true]; first | done | omega)) h, fun _ => ?_⟩) | (refine ⟨fun _ => ?_, fun h => absurd h (by (simp (disch := omega) only [nI_1, nI_add, nI_leI, nI_ltI, nI_eq, ni_ltR, ni_ltL, ni_leR, ni_leL, ni_eqR, ni_eqL, ni_nm, ni_nm2, not_false_eq_true]; first | done | omega))⟩) | (refine C (Me_at rfl rfl rfl rfl ?_)) | (refine ⟨nb_bz, ?_⟩) | (refine ⟨fun _ => ?_, fun h => absurd (by assumption) h⟩) | (refine ⟨fun h => absurd h (by assumption), fun _ => ?_⟩) | (refine ⟨fun h => absurd (by assumption) h, fun _ => ?_⟩) | (refine ⟨fun _ => ?_, fun h => absurd h (by assumption)⟩) | fail))
  refine hQ _ _ _ (fun b hb => ⟨?_, ?_, ?_⟩) ?_
  · first | rfl | simp (disch := omega) only [Nat.reduceAdd, tkL, tq_97, tq_98, tq_99, tq_100, mj_u_row, mj_w_row, mj_z_row]
  · first | rfl | simp (disch := omega) only [Nat.reduceAdd, tkL, tq_97, tq_98, tq_99, tq_100, mj_u_row, mj_w_row, mj_z_row]
  · first | rfl | simp (disch := omega) only [Nat.reduceAdd, tkL, tq_97, tq_98, tq_99, tq_100, mj_u_row, mj_w_row, mj_z_row]
  · simp only [agT, agR]
    repeat' (first | exact True.intro | exact rfl | refine ⟨?_, ?_⟩)
set_option maxHeartbeats 4000000 in
theorem K_Seeker {d : Nat} {P : mj_P} {I : mj_I} {J : mj_J} {Q : mj_Q} (hQ : ∀ P' I' J', FR 101 P I J P' I' J' → agT P' 101 [[some 96, some 102, some 104, some 106, some 108], [some 103], [], [some 105], [], [some 107], [], [some 109], []] → Q none (sh0.take 110) P' I' J') : mj_ret mj_pr (d + 2) n_Seeker_init [.ref 101, .ref 96] (8, 152) (sh0.take 102) P I J Q := by
  refine mj_in2 2 t_Seeker_init rfl rfl (fun X cr C F => ?_)
  (repeat (first | (apply F; conv => whnf) | (refine ⟨rfl, ?_⟩) | (refine ⟨vpk (by decide) ?_, ?_⟩; rfl) | (refine ⟨by assumption, ?_⟩) | (refine ⟨by decide, ?_⟩) | (refine ⟨fun h => absurd h (by decide), fun _ => ?_⟩) | (refine ⟨fun _ => ?_, fun h => absurd (by decide) h⟩) | (refine ⟨fun h => absurd (by decide) h, fun _ => ?_⟩) | (refine ⟨fun _ => ?_, fun h => absurd h (by decide)⟩) | (refine ⟨⟨Nat.le_of_ble_eq_true rfl, Nat.le_of_ble_eq_true rfl⟩, ?_⟩) | (simp (disch := omega) only [nI_clamp, clL, nI_1, nI_add, pk_mul, ni_aL, ni_aR, ni_mL, ni_mR, ni_sR, ni_sb, ni_m1, ni_dv, mj_u_eq, mj_u_ne1, mj_u_ne2, Nat.reduceAdd, tkL, tq_102, tq_103, tq_104, tq_105, tq_106, tq_107, tq_108, tq_109]; try (conv => whnf)) | (refine ⟨vpq _ rfl (by omega) (by omega), ?_⟩) | (refine ⟨fun h => absurd h (by (simp (disch := omega) only [nI_1, nI_add, nI_leI, nI_ltI, nI_eq, ni_ltR, ni_ltL, ni_leR, ni_leL, ni_eqR, ni_eqL, ni_nm, ni_nm2, not_false_eq_true]; first | done | omega)), fun _ => ?_⟩) | (refine ⟨fun _ => ?_, fun h => absurd (by (simp (disch := omega) only [nI_1, nI_add, nI_leI, nI_ltI, nI_eq, ni_ltR, ni_ltL, ni_leR, ni_leL, ni_eqR, ni_eqL, ni_nm, ni_nm2, not_false_eq_true]; first | done | omega)) h⟩) | (refine ⟨fun h => absurd (by (simp (disch := omega) only [nI_1, nI_add, nI_leI, nI_ltI, nI_eq, ni_ltR, ni_ltL, ni_leR, ni_leL, ni_eqR, ni_eqL, ni_nm, ni_nm2, not_false_eq_true]; first | done | omega)) h, fun _ => ?_⟩) | (refine ⟨fun _ => ?_, fun h => absurd h (by (simp (disch := omega) only [nI_1, nI_add, nI_leI, nI_ltI, nI_eq, ni_ltR, ni_ltL, ni_leR, ni_leL, ni_eqR, ni_eqL, ni_nm, ni_nm2, not_false_eq_true]; first | done | omega))⟩) | (refine C (Me_at rfl rfl rfl rfl ?_)) | (refine ⟨nb_bz, ?_⟩) | (refine ⟨fun _ => ?_, fun h => absurd (by assumption) h⟩) | (refine ⟨fun h => absurd h (by assumption), fun _ => ?_⟩) | (refine ⟨fun h => absurd (by assumption) h, fun _ => ?_⟩) | (refine ⟨fun _ => ?_, fun h => absurd h (by assumption)⟩) | fail))
  refine hQ _ _ _ (fun b hb => ⟨?_, ?_, ?_⟩) ?_
  · first | rfl | simp (disch := omega) only [Nat.reduceAdd, tkL, tq_102, tq_103, tq_104, tq_105, tq_106, tq_107, tq_108, tq_109, mj_u_row, mj_w_row, mj_z_row]
  · first | rfl | simp (disch := omega) only [Nat.reduceAdd, tkL, tq_102, tq_103, tq_104, tq_105, tq_106, tq_107, tq_108, tq_109, mj_u_row, mj_w_row, mj_z_row]
  · first | rfl | simp (disch := omega) only [Nat.reduceAdd, tkL, tq_102, tq_103, tq_104, tq_105, tq_106, tq_107, tq_108, tq_109, mj_u_row, mj_w_row, mj_z_row]
  · simp only [agT, agR]
    repeat' (first | exact True.intro | exact rfl | refine ⟨?_, ?_⟩)
set_option maxHeartbeats 4000000 in
theorem K_Coder {d : Nat} {P : mj_P} {I : mj_I} {J : mj_J} {Q : mj_Q} (hQ : ∀ P' I' J', FR 110 P I J P' I' J' → agT P' 110 [[some 96, some 111, some 113, some 114, some 115], [some 112], [], [], [], []] → Q none (sh0.take 116) P' I' J') : mj_ret mj_pr (d + 2) n_Coder_init [.ref 110, .ref 96] (5, 98) (sh0.take 111) P I J Q := by
  refine mj_in2 2 t_Coder_init rfl rfl (fun X cr C F => ?_)
  (repeat (first | (apply F; conv => whnf) | (refine ⟨rfl, ?_⟩) | (refine ⟨vpk (by decide) ?_, ?_⟩; rfl) | (refine ⟨by assumption, ?_⟩) | (refine ⟨by decide, ?_⟩) | (refine ⟨fun h => absurd h (by decide), fun _ => ?_⟩) | (refine ⟨fun _ => ?_, fun h => absurd (by decide) h⟩) | (refine ⟨fun h => absurd (by decide) h, fun _ => ?_⟩) | (refine ⟨fun _ => ?_, fun h => absurd h (by decide)⟩) | (refine ⟨⟨Nat.le_of_ble_eq_true rfl, Nat.le_of_ble_eq_true rfl⟩, ?_⟩) | (simp (disch := omega) only [nI_clamp, clL, nI_1, nI_add, pk_mul, ni_aL, ni_aR, ni_mL, ni_mR, ni_sR, ni_sb, ni_m1, ni_dv, mj_u_eq, mj_u_ne1, mj_u_ne2, Nat.reduceAdd, tkL, tq_111, tq_112, tq_113, tq_114, tq_115]; try (conv => whnf)) | (refine ⟨vpq _ rfl (by omega) (by omega), ?_⟩) | (refine ⟨fun h => absurd h (by (simp (disch := omega) only [nI_1, nI_add, nI_leI, nI_ltI, nI_eq, ni_ltR, ni_ltL, ni_leR, ni_leL, ni_eqR, ni_eqL, ni_nm, ni_nm2, not_false_eq_true]; first | done | omega)), fun _ => ?_⟩) | (refine ⟨fun _ => ?_, fun h => absurd (by (simp (disch := omega) only [nI_1, nI_add, nI_leI, nI_ltI, nI_eq, ni_ltR, ni_ltL, ni_leR, ni_leL, ni_eqR, ni_eqL, ni_nm, ni_nm2, not_false_eq_true]; first | done | omega)) h⟩) | (refine ⟨fun h => absurd (by (simp (disch := omega) only [nI_1, nI_add, nI_leI, nI_ltI, nI_eq, ni_ltR, ni_ltL, ni_leR, ni_leL, ni_eqR, ni_eqL, ni_nm, ni_nm2, not_false_eq_true]; first | done | omega)) h, fun _ => ?_⟩) | (refine ⟨fun _ => ?_, fun h => absurd h (by (simp (disch := omega) only [nI_1, nI_add, nI_leI, nI_ltI, nI_eq, ni_ltR, ni_ltL, ni_leR, ni_leL, ni_eqR, ni_eqL, ni_nm, ni_nm2, not_false_eq_true]; first | done | omega))⟩) | (refine C (Me_at rfl rfl rfl rfl ?_)) | (refine ⟨nb_bz, ?_⟩) | (refine ⟨fun _ => ?_, fun h => absurd (by assumption) h⟩) | (refine ⟨fun h => absurd h (by assumption), fun _ => ?_⟩) | (refine ⟨fun h => absurd (by assumption) h, fun _ => ?_⟩) | (refine ⟨fun _ => ?_, fun h => absurd h (by assumption)⟩) | fail))
  refine hQ _ _ _ (fun b hb => ⟨?_, ?_, ?_⟩) ?_
  · first | rfl | simp (disch := omega) only [Nat.reduceAdd, tkL, tq_111, tq_112, tq_113, tq_114, tq_115, mj_u_row, mj_w_row, mj_z_row]
  · first | rfl | simp (disch := omega) only [Nat.reduceAdd, tkL, tq_111, tq_112, tq_113, tq_114, tq_115, mj_u_row, mj_w_row, mj_z_row]
  · first | rfl | simp (disch := omega) only [Nat.reduceAdd, tkL, tq_111, tq_112, tq_113, tq_114, tq_115, mj_u_row, mj_w_row, mj_z_row]
  · simp only [agT, agR]
    repeat' (first | exact True.intro | exact rfl | refine ⟨?_, ?_⟩)
