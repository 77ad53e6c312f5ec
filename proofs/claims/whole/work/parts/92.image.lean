/-! the image -/
theorem MW_to {I I' : mj_I} {J J' : mj_J} {m m' c c' : Nat} {dy ln : Nat} {sn dr : Int32} {pl sl cl : List Nat} {lf : Nat → Nat → Nat} {bk : Bk} {lk : List Lk} {rl : Nat → List Ru} {cz : Int64} (h : MW I J m c dy ln sn dr pl sl cl lf bk lk rl cz) (hw : WF dy ln sn dr pl sl cl lf bk lk rl cz) (h1 : ∀ j, j < 5280 → I' m' j = I m j) (h3 : J' 139 c' = J 139 c) : MW I' J' m' c' dy ln sn dr pl sl cl lf bk lk rl cz := by
  obtain ⟨w1, w2, w3, w4, w5, w6, w7, w8, w9, w10, w11⟩ := hw
  obtain ⟨m1, m2, m3, m4, m5, m6, m7, m8, m9, m10, m11, m12⟩ := h
  have ms : ∀ {n o : Nat} {l : List Nat} {N : Nat}, msM I m n o l → l.length ≤ N → n < 5280 → o + N ≤ 5280 → msM I' m' n o l := fun h l1 l2 l3 => ⟨by rw [h1 _ l2]; exact h.1, fun j hj => by rw [h1 _ (by omega)]; exact h.2 j hj⟩
  refine ⟨by rw [h1 _ (by decide)]; exact m1, by rw [h1 _ (by decide)]; exact m2, by rw [h1 _ (by decide)]; exact m3, by rw [h1 _ (by decide)]; exact m4, ms m5 w3.1 (by decide) (by decide), ms m6 w4.1 (by decide) (by decide), ms m7 w5.1 (by decide) (by decide), fun l hl k hk => by rw [h1 _ (by omega)]; exact m8 l hl k hk, ⟨fun l hl x hx => by rw [h1 _ (by omega)]; exact m9.1 l hl x hx, by rw [h1 _ (by decide)]; exact m9.2.1, m9.2.2.1, fun j hj => by rw [h1 _ (by omega)]; exact m9.2.2.2 j hj⟩, ⟨by rw [h1 _ (by decide)]; exact m10.1, fun i hi => ?_⟩, fun k hk => ⟨by rw [h1 _ (by omega)]; exact (m11 k hk).1, fun i hi => ?_⟩, by rw [h3]; exact m12⟩
  · obtain ⟨a1, a2, a3, a4, a5⟩ := m10.2 i hi
    have d := w10 (lk.getD i lkZ) (by rw [List.getD_eq_getElem?_getD, List.getElem?_eq_getElem hi]; exact List.getElem_mem hi)
    have d1 := d.1.1
    have d2 := d.2.1.1
    exact ⟨by rw [h1 _ (by omega)]; exact a1, by rw [h1 _ (by omega)]; exact a2, by rw [h1 _ (by omega)]; exact a3, fun j hj => by rw [h1 _ (by omega)]; exact a4 j hj, fun j hj => by rw [h1 _ (by omega)]; exact a5 j hj⟩
  · obtain ⟨q1, q2, q3, b0, q4, q5, q6, q7⟩ := (m11 k hk).2 i hi
    have := (w11 k hk).1
    exact ⟨by rw [h1 _ (by omega)]; exact q1, by rw [h1 _ (by omega)]; exact q2, by rw [h1 _ (by omega)]; exact q3, b0, by rw [h1 _ (by omega)]; exact q4, by rw [h1 _ (by omega)]; exact q5, q6, fun j hj => ⟨by rw [h1 _ (by omega)]; exact (q7 j hj).1, fun z => by rw [h1 _ (by omega)]; exact (q7 j hj).2 z⟩⟩
theorem cp_hi {P : mj_P} {r0 r1 r2 r3 rs : Nat} {kp : Option Nat} {a : Nat} (h : 159 ≤ a) : cp P r0 r1 r2 r3 rs kp a = P a := by
  funext j
  unfold cp
  have e : (cp_t r0 r1 r2 r3 rs kp).getD a [] = [] := by
    rw [List.getD_eq_getElem?_getD, List.getElem?_eq_none (by exact h)]
    rfl
  rw [e]
  rfl
theorem isW_1 {e : mj_S} {P : mj_P} {r0 r1 r2 r3 rs : Nat} {kp : Option Nat} (h : RD r0 r1 r2 r3 rs) : isW (sh0 ++ e) (cp P r0 r1 r2 r3 rs kp) 1 (ra r0 r1 r2 r3) :=
  ⟨rfl, ⟨rfl, rfl, rfl, rfl, rfl, rfl, rfl, rfl, rfl, rfl⟩, ⟨rfl, rfl⟩, fun l hl => ⟨cp_2 hl, kd_15 hl⟩, ⟨rfl, rfl⟩, fun k hk => ⟨cp_3 hk, isR_of (RD_ra h hk)⟩, ⟨⟨rfl, rfl, rfl, rfl⟩, ⟨rfl, rfl, rfl, rfl⟩, ⟨rfl, rfl, rfl, rfl⟩⟩, ⟨rfl, rfl⟩, ⟨rfl, rfl⟩, ⟨rfl, rfl⟩, ⟨rfl, rfl⟩, ⟨rfl, rfl⟩⟩
theorem isW_k {P : mj_P} {r0 r1 r2 r3 rs : Nat} {kp : Option Nat} (h : kwP P) : isW (sh0 ++ kwE) (cp P r0 r1 r2 r3 rs kp) 159 (fun k => 185 + 7 * k) := by
  obtain ⟨p0, p1, p2, p3, p4, p5, p6, p7, p8, p9, pl, pr, q1, q2, q3, pk⟩ := h
  have K : ∀ c, mj_kd (sh0 ++ kwE) (159 + c) = mj_kd kwE c := fun c => kd_pre rfl
  have L : ∀ c, mj_ln (sh0 ++ kwE) (159 + c) = mj_ln kwE c := fun c => ln_pre rfl
  have H : ∀ a, 159 ≤ a → cp P r0 r1 r2 r3 rs kp a = P a := fun a => cp_hi
  unfold isW isM
  refine ⟨K 0, ?_, ⟨K 1, L 1⟩, fun l hl => ⟨by rw [H _ (by omega)]; exact pl l hl, ?_⟩, ⟨K 2, L 2⟩, fun k hk => ⟨by rw [H _ (by omega)]; exact pr k hk, ?_⟩, ⟨⟨K 3, by rw [H _ (by omega)]; exact q1, K 4, L 4⟩, ⟨K 5, by rw [H _ (by omega)]; exact q2, K 6, L 6⟩, ⟨K 7, by rw [H _ (by omega)]; exact q3, K 8, L 8⟩⟩, ⟨K 9, L 9⟩, ⟨K 10, L 10⟩, ⟨K 11, L 11⟩, ⟨K 12, L 12⟩, ⟨K 13, L 13⟩⟩
  · rw [H _ (by omega)]
    exact ⟨p0, p1, p2, p3, p4, p5, p6, p7, p8, p9⟩
  · rw [Nat.add_assoc, K]
    rcases (show l = 0 ∨ l = 1 ∨ l = 2 ∨ l = 3 ∨ l = 4 ∨ l = 5 ∨ l = 6 ∨ l = 7 ∨ l = 8 ∨ l = 9 ∨ l = 10 ∨ l = 11 by omega) with rfl | rfl | rfl | rfl | rfl | rfl | rfl | rfl | rfl | rfl | rfl | rfl <;> rfl
  · obtain ⟨k0, k1, k2, k3, k4, k5⟩ := pk k hk
    have hH := H (185 + 7 * k) (by omega)
    unfold isR
    rw [hH]
    rcases (show k = 0 ∨ k = 1 ∨ k = 2 ∨ k = 3 by omega) with rfl | rfl | rfl | rfl
    · exact ⟨K 26, k0, k1, k2, k3, k4, k5, K 27, K 28, K 29, K 30, K 31, K 32, L 27, L 28, L 29, L 30, L 31, L 32⟩
    · exact ⟨K 33, k0, k1, k2, k3, k4, k5, K 34, K 35, K 36, K 37, K 38, K 39, L 34, L 35, L 36, L 37, L 38, L 39⟩
    · exact ⟨K 40, k0, k1, k2, k3, k4, k5, K 41, K 42, K 43, K 44, K 45, K 46, L 41, L 42, L 43, L 44, L 45, L 46⟩
    · exact ⟨K 47, k0, k1, k2, k3, k4, k5, K 48, K 49, K 50, K 51, K 52, K 53, L 48, L 49, L 50, L 51, L 52, L 53⟩
theorem ra_ne {r0 r1 r2 r3 rs k m : Nat} (h : RD r0 r1 r2 r3 rs) (hk : k < 4) (hm : m < 4) (e : m ≠ k) : ra r0 r1 r2 r3 k ≠ ra r0 r1 r2 r3 m := by
  have := h.1
  simp only [List.nodup_cons, List.mem_cons, List.not_mem_nil, or_false, not_or] at this
  unfold ra
  rcases (show k = 0 ∨ k = 1 ∨ k = 2 ∨ k = 3 by omega) with rfl | rfl | rfl | rfl <;> rcases (show m = 0 ∨ m = 1 ∨ m = 2 ∨ m = 3 by omega) with rfl | rfl | rfl | rfl <;> simp only [List.getD_cons_zero, List.getD_cons_succ] <;> omega
theorem dj_1 {r0 r1 r2 r3 rs : Nat} (h : RD r0 r1 r2 r3 rs) : djW 1 (ra r0 r1 r2 r3) 159 (fun k => 185 + 7 * k) := by
  refine ⟨by omega, fun k hk => ?_⟩
  have := RD_ra h hk
  refine ⟨by omega, by omega, by simp only []; omega, fun m hm => ⟨by simp only []; omega, fun e => ?_⟩⟩
  have := RD_ra h hm
  have := ra_ne h hk hm e
  omega
theorem dj_2 {r0 r1 r2 r3 rs : Nat} (h : RD r0 r1 r2 r3 rs) : djW 159 (fun k => 185 + 7 * k) 1 (ra r0 r1 r2 r3) := by
  refine ⟨by omega, fun k hk => ?_⟩
  have := RD_ra h hk
  refine ⟨by simp only []; omega, by simp only []; omega, by omega, fun m hm => ⟨?_, fun e => by simp only []; omega⟩⟩
  have := RD_ra h hm
  simp only []; omega
theorem kw_WS {P0 P : mj_P} {I0 I : mj_I} {J0 J : mj_J} {sh : mj_S} (h : WS sh0 159 P0 I0 J0 54 10 12 4 sh P I J) : kwP P := by
  obtain ⟨h1, h2, h3, h4, h5, h6, h7, h8, h9, h10⟩ := h
  exact ⟨h6 0 (by decide), h6 1 (by decide), h6 2 (by decide), h6 3 (by decide), h6 4 (by decide), h6 5 (by decide), h6 6 (by decide), h6 7 (by decide), h6 8 (by decide), h6 9 (by decide), h8, fun k hk => (h9 k hk).1, h7 0 (by decide) (by decide), h7 1 (by decide) (by decide), h7 2 (by decide) (by decide), fun k hk => ⟨by rw [(h9 k hk).2 0 (by decide)]; congr 1; omega, by rw [(h9 k hk).2 1 (by decide)]; congr 1; omega, by rw [(h9 k hk).2 2 (by decide)]; congr 1; omega, by rw [(h9 k hk).2 3 (by decide)]; congr 1; omega, by rw [(h9 k hk).2 4 (by decide)]; congr 1; omega, by rw [(h9 k hk).2 5 (by decide)]; congr 1; omega⟩⟩
theorem cp_kp {P P' : mj_P} {r0 r1 r2 r3 rs : Nat} {kp : Option Nat} (h : ∀ b, b < 159 → P' b = cp P r0 r1 r2 r3 rs kp b) : mj_u P' 0 10 (some 159) = cp P' r0 r1 r2 r3 rs (some 159) := by
  funext a j
  by_cases z : 159 ≤ a
  · rw [cp_hi z, mj_u_row _ _ _ _ (by omega)]
  · have ha := h a (by omega)
    have hj : P' a j = cp P r0 r1 r2 r3 rs kp a j := by rw [ha]
    by_cases e : a = 0
    · subst e
      by_cases e : j = 10
      · rw [e, mj_u_eq]; rfl
      · rw [mj_u_ne2 _ _ _ _ e]
        by_cases l : j < 10
        · rw [hj]
          rcases (show j = 0 ∨ j = 1 ∨ j = 2 ∨ j = 3 ∨ j = 4 ∨ j = 5 ∨ j = 6 ∨ j = 7 ∨ j = 8 ∨ j = 9 by omega) with rfl | rfl | rfl | rfl | rfl | rfl | rfl | rfl | rfl | rfl <;> rfl
        · show _ = (match ((cp_t r0 r1 r2 r3 rs (some 159)).getD 0 [])[j]? with | some x => x | none => P' 0 j)
          rw [List.getElem?_eq_none (by show 11 ≤ j; omega)]
    · rw [mj_u_row _ _ _ _ e]
      unfold cp at hj ⊢
      have e2 : (cp_t r0 r1 r2 r3 rs (some 159)).getD a [] = (cp_t r0 r1 r2 r3 rs kp).getD a [] := by
        obtain ⟨a, rfl⟩ : ∃ b, a = b + 1 := ⟨a - 1, by omega⟩
        rfl
      rw [e2]
      revert hj
      cases ((cp_t r0 r1 r2 r3 rs kp).getD a [])[j]? with
      | none => intro _; rfl
      | some x => intro h; exact h
