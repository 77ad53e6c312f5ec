/-! constructors: the reference -/
set_option maxHeartbeats 1000000 in
theorem K_Mo {d : Nat} {P : mj_P} {I : mj_I} {J : mj_J} {Q : mj_Q} (hP : ∀ j, P 139 j = none) (hI : ∀ j, I 139 j = 0) (hJ : ∀ j, J 139 j = 0) (hQ : ∀ P' I' J', FR 139 P I J P' I' J' → agT P' 139 [[some 140, some 141, some 142, some 143, none, none, none, none, some 144, some 145, some 146, some 147, some 148, none, none, none, none, none, none, none, none, none, none, none, none, some 149, some 150, none, none, some 151, some 152, some 153, some 154, none, some 155, some 156, some 157, some 158], [], [], [], [], [], [], [], [], [], [], [], [], [], [], [], [], [], [], []] → (∀ j, j ≠ 24 → I' 139 j = 0) → I' 139 24 = -1 → (∀ j, I' 140 j = 0) → J' 139 5 = 0 → Q none sh0 P' I' J') : mj_ret mj_pr (d + 2) n_Mo_init [.ref 139] (19, 15524) (sh0.take 140) P I J Q := by
  refine mj_in2 1 t_Mo_init rfl rfl (fun X cr C F => ?_)
  (apply F; conv => whnf)
  (apply F; conv => whnf)
  (apply F; conv => whnf)
  (apply F; conv => whnf)
  (apply F; conv => whnf)
  refine ⟨⟨by decide, by decide, by decide, by decide⟩, ?_⟩
  simp (disch := omega) only [clL, tkL, tq_140]
  (apply F; conv => whnf)
  refine ⟨rfl, ?_⟩
  (apply F; conv => whnf)
  (apply F; conv => whnf)
  (apply F; conv => whnf)
  refine ⟨⟨by decide, by decide, by decide, by decide⟩, ?_⟩
  simp (disch := omega) only [clL, tkL, tq_141]
  (apply F; conv => whnf)
  refine ⟨rfl, ?_⟩
  (apply F; conv => whnf)
  (apply F; conv => whnf)
  (apply F; conv => whnf)
  refine ⟨⟨by decide, by decide, by decide, by decide⟩, ?_⟩
  simp (disch := omega) only [clL, tkL, tq_142]
  (apply F; conv => whnf)
  refine ⟨rfl, ?_⟩
  (apply F; conv => whnf)
  (apply F; conv => whnf)
  (apply F; conv => whnf)
  refine ⟨⟨by decide, by decide, by decide, by decide⟩, ?_⟩
  simp (disch := omega) only [clL, tkL, tq_143]
  (apply F; conv => whnf)
  refine ⟨rfl, ?_⟩
  (apply F; conv => whnf)
  (apply F; conv => whnf)
  (apply F; conv => whnf)
  refine ⟨⟨by decide, by decide, by decide, by decide⟩, ?_⟩
  simp (disch := omega) only [clL, tkL, tq_144]
  (apply F; conv => whnf)
  refine ⟨rfl, ?_⟩
  (apply F; conv => whnf)
  (apply F; conv => whnf)
  (apply F; conv => whnf)
  refine ⟨⟨by decide, by decide, by decide, by decide⟩, ?_⟩
  simp (disch := omega) only [clL, tkL, tq_145]
  (apply F; conv => whnf)
  refine ⟨rfl, ?_⟩
  (apply F; conv => whnf)
  (apply F; conv => whnf)
  (apply F; conv => whnf)
  refine ⟨⟨by decide, by decide, by decide, by decide⟩, ?_⟩
  simp (disch := omega) only [clL, tkL, tq_146]
  (apply F; conv => whnf)
  refine ⟨rfl, ?_⟩
  (apply F; conv => whnf)
  (apply F; conv => whnf)
  (apply F; conv => whnf)
  refine ⟨⟨by decide, by decide, by decide, by decide⟩, ?_⟩
  simp (disch := omega) only [clL, tkL, tq_147]
  (apply F; conv => whnf)
  refine ⟨rfl, ?_⟩
  (apply F; conv => whnf)
  (apply F; conv => whnf)
  (apply F; conv => whnf)
  refine ⟨⟨by decide, by decide, by decide, by decide⟩, ?_⟩
  simp (disch := omega) only [clL, tkL, tq_148]
  (apply F; conv => whnf)
  refine ⟨rfl, ?_⟩
  (apply F; conv => whnf)
  (apply F; conv => whnf)
  (apply F; conv => whnf)
  refine ⟨rfl, ?_⟩
  (apply F; conv => whnf)
  (apply F; conv => whnf)
  (apply F; conv => whnf)
  refine ⟨⟨by decide, by decide, by decide, by decide⟩, ?_⟩
  simp (disch := omega) only [clL, tkL, tq_149]
  (apply F; conv => whnf)
  refine ⟨rfl, ?_⟩
  (apply F; conv => whnf)
  (apply F; conv => whnf)
  (apply F; conv => whnf)
  refine ⟨⟨by decide, by decide, by decide, by decide⟩, ?_⟩
  simp (disch := omega) only [clL, tkL, tq_150]
  (apply F; conv => whnf)
  refine ⟨rfl, ?_⟩
  (apply F; conv => whnf)
  (apply F; conv => whnf)
  (apply F; conv => whnf)
  refine ⟨⟨by decide, by decide, by decide, by decide⟩, ?_⟩
  simp (disch := omega) only [clL, tkL, tq_151]
  (apply F; conv => whnf)
  refine ⟨rfl, ?_⟩
  (apply F; conv => whnf)
  (apply F; conv => whnf)
  (apply F; conv => whnf)
  refine ⟨⟨by decide, by decide, by decide, by decide⟩, ?_⟩
  simp (disch := omega) only [clL, tkL, tq_152]
  (apply F; conv => whnf)
  refine ⟨rfl, ?_⟩
  (apply F; conv => whnf)
  (apply F; conv => whnf)
  (apply F; conv => whnf)
  refine ⟨⟨by decide, by decide, by decide, by decide⟩, ?_⟩
  simp (disch := omega) only [clL, tkL, tq_153]
  (apply F; conv => whnf)
  refine ⟨rfl, ?_⟩
  (apply F; conv => whnf)
  (apply F; conv => whnf)
  (apply F; conv => whnf)
  refine ⟨⟨by decide, by decide, by decide, by decide⟩, ?_⟩
  simp (disch := omega) only [clL, tkL, tq_154]
  (apply F; conv => whnf)
  refine ⟨rfl, ?_⟩
  (apply F; conv => whnf)
  (apply F; conv => whnf)
  (apply F; conv => whnf)
  refine ⟨⟨by decide, by decide, by decide, by decide⟩, ?_⟩
  simp (disch := omega) only [clL, tkL, tq_155]
  (apply F; conv => whnf)
  refine ⟨rfl, ?_⟩
  (apply F; conv => whnf)
  (apply F; conv => whnf)
  (apply F; conv => whnf)
  refine ⟨⟨by decide, by decide, by decide, by decide⟩, ?_⟩
  simp (disch := omega) only [clL, tkL, tq_156]
  (apply F; conv => whnf)
  refine ⟨rfl, ?_⟩
  (apply F; conv => whnf)
  (apply F; conv => whnf)
  (apply F; conv => whnf)
  refine ⟨⟨by decide, by decide, by decide, by decide⟩, ?_⟩
  simp (disch := omega) only [clL, tkL, tq_157]
  (apply F; conv => whnf)
  refine ⟨rfl, ?_⟩
  (apply F; conv => whnf)
  (apply F; conv => whnf)
  (apply F; conv => whnf)
  refine ⟨⟨by decide, by decide, by decide, by decide⟩, ?_⟩
  simp (disch := omega) only [clL, tkL, tq_158]
  (apply F; conv => whnf)
  refine ⟨rfl, ?_⟩
  (apply F; conv => whnf)
  refine ⟨rfl, ?_⟩
  refine hQ _ _ _ (fun b hb => ⟨?_, ?_, ?_⟩) ?_ (fun j hj => ?_) ?_ (fun j => ?_) ?_
  · simp (disch := omega) only [Nat.reduceAdd, tkL, tq_140, tq_141, tq_142, tq_143, tq_144, tq_145, tq_146, tq_147, tq_148, tq_149, tq_150, tq_151, tq_152, tq_153, tq_154, tq_155, tq_156, tq_157, tq_158, mj_u_row, mj_w_row]
  · simp (disch := omega) only [Nat.reduceAdd, tkL, tq_140, tq_141, tq_142, tq_143, tq_144, tq_145, tq_146, tq_147, tq_148, tq_149, tq_150, tq_151, tq_152, tq_153, tq_154, tq_155, tq_156, tq_157, tq_158, mj_u_row, mj_w_row]
  · simp (disch := omega) only [Nat.reduceAdd, tkL, tq_140, tq_141, tq_142, tq_143, tq_144, tq_145, tq_146, tq_147, tq_148, tq_149, tq_150, tq_151, tq_152, tq_153, tq_154, tq_155, tq_156, tq_157, tq_158, mj_u_row, mj_w_row]
  · simp only [agT, agR]
    refine ⟨⟨rfl, rfl, rfl, rfl, hP 4, hP 5, hP 6, hP 7, rfl, rfl, rfl, rfl, rfl, hP 13, hP 14, hP 15, hP 16, hP 17, hP 18, hP 19, hP 20, hP 21, hP 22, hP 23, hP 24, rfl, rfl, hP 27, hP 28, rfl, rfl, rfl, rfl, hP 33, rfl, rfl, rfl, rfl, True.intro⟩, True.intro, True.intro, True.intro, True.intro, True.intro, True.intro, True.intro, True.intro, True.intro, True.intro, True.intro, True.intro, True.intro, True.intro, True.intro, True.intro, True.intro, True.intro, True.intro, True.intro⟩
  · simp (disch := omega) only [Nat.reduceAdd, tkL, tq_140, tq_141, tq_142, tq_143, tq_144, tq_145, tq_146, tq_147, tq_148, tq_149, tq_150, tq_151, tq_152, tq_153, tq_154, tq_155, tq_156, tq_157, tq_158, mj_u_row, mj_u_ne2, mj_w_row]
    exact hI j
  · rfl
  · rfl
  · exact hJ 5
