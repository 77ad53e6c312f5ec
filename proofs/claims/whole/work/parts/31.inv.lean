/-! the world as the class and as the reference hold it -/
abbrev Lk : Type := Nat × List Nat × List Nat
def lkZ : Lk := (0, [], [])
/-- what a look says: lost, held -/
def lkX (p s : List Nat) : Nat × Nat := if kept (dset p &&& (1023 ^^^ dset s)) p = s then (dset p &&& (1023 ^^^ dset s), dset s) else (1023, 1023)
def bkC (I : mj_I) (w : Nat) (s : Bk) : Prop := (∀ j, j < 120 → I (w + 9) j = s.1 j) ∧ I w 11 = nI s.2.1 ∧ ∀ j, j < 800 → I (w + 10) j = s.2.2 j
def lkC (I : mj_I) (w : Nat) (lk : List Lk) : Prop := I w 12 = nI lk.length ∧ ∀ i, i < lk.length → I (w + 11) i = nI (lk.getD i lkZ).1 ∧ I (w + 12) i = nI (lkX (lk.getD i lkZ).2.1 (lk.getD i lkZ).2.2).1 ∧ I (w + 13) i = nI (lkX (lk.getD i lkZ).2.1 (lk.getD i lkZ).2.2).2
def lkM (I : mj_I) (m : Nat) (lk : List Lk) : Prop := I m 5 = nI lk.length ∧ ∀ i, i < lk.length → I m (1100 + 28 * i) = nI (lk.getD i lkZ).1 ∧ I m (1100 + 28 * i + 1) = nI (lk.getD i lkZ).2.1.length ∧ I m (1100 + 28 * i + 2) = nI (lk.getD i lkZ).2.2.length ∧ (∀ j, j < (lk.getD i lkZ).2.1.length → I m (1100 + 28 * i + 3 + j) = nI ((lk.getD i lkZ).2.1.getD j 0)) ∧ ∀ j, j < (lk.getD i lkZ).2.2.length → I m (1100 + 28 * i + 15 + j) = nI ((lk.getD i lkZ).2.2.getD j 0)
/-- a line's fields -/
def lfB (f : Nat → Nat) : Prop := f 0 < 8 ∧ f 1 < 8 ∧ f 2 < 4 ∧ f 3 < 1024 ∧ f 4 < 1024 ∧ f 5 ≤ 1000 ∧ f 6 < 2
def dg (n : Nat) (l : List Nat) : Prop := l.length ≤ n ∧ ∀ x ∈ l, x < 10
def WF (dy ln : Nat) (sn dr : Int32) (pl sl cl : List Nat) (lf : Nat → Nat → Nat) (bk : Bk) (lk : List Lk) (rl : Nat → List Ru) (cz : Int64) : Prop := dy ≤ 9999 ∧ ln ≤ 12 ∧ dg 12 pl ∧ dg 12 sl ∧ dg 36 cl ∧ (∀ l, l < ln → lfB (lf l)) ∧ bk.2.1 ≤ 200 ∧ (∀ l, ln ≤ l → l < 12 → ∀ x, x < 10 → bk.1 (10 * l + x) = 0) ∧ lk.length ≤ 20 ∧ (∀ e ∈ lk, dg 12 e.2.1 ∧ dg 12 e.2.2 ∧ e.1 < 12) ∧ ∀ k, k < 4 → ruW (rl k)
def CW (I : mj_I) (J : mj_J) (w : Nat) (ra : Nat → Nat) (dy ln : Nat) (sn dr : Int32) (pl sl cl : List Nat) (lf : Nat → Nat → Nat) (bk : Bk) (lk : List Lk) (rl : Nat → List Ru) (cz : Int64) : Prop := I w 13 = nI dy ∧ I w 10 = nI ln ∧ I w 15 = sn ∧ I w 14 = dr ∧ mg I (w + 3) pl ∧ mg I (w + 5) sl ∧ mg I (w + 7) cl ∧ (∀ l, l < ln → ∀ k, k < 7 → I (w + 14 + l) k = nI (lf l k)) ∧ bkC I w bk ∧ lkC I w lk ∧ (∀ k, k < 4 → ruC I (ra k) (rl k)) ∧ J w 16 = cz
def MW (I : mj_I) (J : mj_J) (m c : Nat) (dy ln : Nat) (sn dr : Int32) (pl sl cl : List Nat) (lf : Nat → Nat → Nat) (bk : Bk) (lk : List Lk) (rl : Nat → List Ru) (cz : Int64) : Prop := I m 0 = nI dy ∧ I m 1 = nI ln ∧ I m 3 = sn ∧ I m 4 = dr ∧ msM I m 6 10 pl ∧ msM I m 7 22 sl ∧ msM I m 8 34 cl ∧ (∀ l, l < ln → ∀ k, k < 7 → I m (70 + 18 * l + k) = nI (lf l k)) ∧ bkM I m bk ∧ lkM I m lk ∧ (∀ k, k < 4 → ruM I m k (rl k)) ∧ J 139 c = cz
theorem CW_congr {I I' : mj_I} {J J' : mj_J} {w : Nat} {ra : Nat → Nat} {dy ln : Nat} {sn dr : Int32} {pl sl cl : List Nat} {lf : Nat → Nat → Nat} {bk : Bk} {lk : List Lk} {rl : Nat → List Ru} {cz : Int64} (h : CW I J w ra dy ln sn dr pl sl cl lf bk lk rl cz) (hl : ln ≤ 12) (h1 : ∀ b, w ≤ b → b < w + 26 → I' b = I b) (h2 : ∀ k, k < 4 → ∀ b, ra k ≤ b → b < ra k + 7 → I' b = I b) (h3 : J' w 16 = J w 16) : CW I' J' w ra dy ln sn dr pl sl cl lf bk lk rl cz := by
  obtain ⟨c1, c2, c3, c4, c5, c6, c7, c8, c9, c10, c11, c12⟩ := h
  have hw := h1 w (by omega) (by omega)
  have h9 := h1 (w + 9) (by omega) (by omega)
  have h10 := h1 (w + 10) (by omega) (by omega)
  have h11 := h1 (w + 11) (by omega) (by omega)
  have h12 := h1 (w + 12) (by omega) (by omega)
  have h13 := h1 (w + 13) (by omega) (by omega)
  refine ⟨by rw [hw]; exact c1, by rw [hw]; exact c2, by rw [hw]; exact c3, by rw [hw]; exact c4, mg_congr c5 (h1 _ (by omega) (by omega)) (h1 _ (by omega) (by omega)), mg_congr c6 (h1 _ (by omega) (by omega)) (h1 _ (by omega) (by omega)), mg_congr c7 (h1 _ (by omega) (by omega)) (h1 _ (by omega) (by omega)), ?_, ?_, ?_, fun k hk => ruC_congr (c11 k hk) (h2 k hk), by rw [h3]; exact c12⟩
  · intro l hl2 k hk
    rw [h1 _ (by omega) (by omega)]
    exact c8 l hl2 k hk
  · unfold bkC
    rw [hw, h9, h10]
    exact c9
  · unfold lkC
    rw [hw, h11, h12, h13]
    exact c10
theorem MW_congr {I I' : mj_I} {J J' : mj_J} {m c : Nat} {dy ln : Nat} {sn dr : Int32} {pl sl cl : List Nat} {lf : Nat → Nat → Nat} {bk : Bk} {lk : List Lk} {rl : Nat → List Ru} {cz : Int64} (h : MW I J m c dy ln sn dr pl sl cl lf bk lk rl cz) (h1 : I' m = I m) (h3 : J' 139 c = J 139 c) : MW I' J' m c dy ln sn dr pl sl cl lf bk lk rl cz := by
  unfold MW msM bkM lkM ruM ruM1 stM
  rw [h1, h3]
  exact h
/-- what a sending kept: sent, lines of the book, what had come, what was lost, the creep -/
abbrev Pe : Type := Int32 × Nat × List Nat × (Nat → Int32) × Int64
def peZ : Pe := (0, 0, [], fun _ => 0, 0)
def PF (ln : Nat) (ps : List Pe) : Prop := ps.length ≤ 8 ∧ ∀ p ∈ ps, p.2.1 ≤ 200 ∧ dg 36 p.2.2.1 ∧ ∀ l, ln ≤ l → l < 12 → ∀ x, x < 10 → p.2.2.2.1 (10 * l + x) = 0
def PC1 (I : mj_I) (J : mj_J) (z : Nat) (p : Pe) : Prop := I 67 z = p.1 ∧ I 66 z = nI p.2.1 ∧ mg I (69 + 2 * z) p.2.2.1 ∧ (∀ j, j < 120 → I (58 + z) j = p.2.2.2.1 j) ∧ J 68 z = p.2.2.2.2
def PC (I : mj_I) (J : mj_J) (ps : List Pe) : Prop := ∃ nx, nx < 8 ∧ I 55 5 = nI nx ∧ I 55 6 = nI ps.length ∧ ∀ i, i < ps.length → PC1 I J ((nx + 8 - ps.length + i) % 8) (ps.getD i peZ)
def PM1 (I : mj_I) (J : mj_J) (i : Nat) (p : Pe) : Prop := I 142 (159 * i) = p.1 ∧ I 142 (159 * i + 1) = nI p.2.1 ∧ I 142 (159 * i + 2) = nI p.2.2.1.length ∧ (∀ j, j < p.2.2.1.length → I 142 (159 * i + 3 + j) = nI (p.2.2.1.getD j 0)) ∧ (∀ j, j < 120 → I 142 (159 * i + 39 + j) = p.2.2.2.1 j) ∧ J 143 i = p.2.2.2.2
def PM (I : mj_I) (J : mj_J) (ps : List Pe) : Prop := I 139 4 = nI ps.length ∧ ∀ i, i < ps.length → PM1 I J i (ps.getD i peZ)
theorem PC_congr {I I' : mj_I} {J J' : mj_J} {ps : List Pe} (h : PC I J ps) (h1 : ∀ b, 55 ≤ b → b < 85 → I' b = I b) (h2 : J' 68 = J 68) : PC I' J' ps := by
  obtain ⟨nx, n1, n2, n3, n4⟩ := h
  refine ⟨nx, n1, by rw [h1 55 (by decide) (by decide)]; exact n2, by rw [h1 55 (by decide) (by decide)]; exact n3, fun i hi => ?_⟩
  obtain ⟨q1, q2, q3, q4, q5⟩ := n4 i hi
  have := Nat.mod_lt (nx + 8 - ps.length + i) (show 8 > 0 by decide)
  refine ⟨by rw [h1 67 (by decide) (by decide)]; exact q1, by rw [h1 66 (by decide) (by decide)]; exact q2, mg_congr q3 (h1 _ (by omega) (by omega)) (h1 _ (by omega) (by omega)), fun j hj => by rw [h1 _ (by omega) (by omega)]; exact q4 j hj, by rw [h2]; exact q5⟩
theorem PM_congr {I I' : mj_I} {J J' : mj_J} {ps : List Pe} (h : PM I J ps) (h0 : I' 139 4 = I 139 4) (h1 : I' 142 = I 142) (h2 : J' 143 = J 143) : PM I' J' ps := by
  unfold PM PM1
  rw [h0, h1, h2]
  exact h
/-- the tape, the fault -/
def TC (I : mj_I) (tp : List Nat) : Prop := I 85 1 = nI tp.length ∧ ∀ j, j < tp.length → I 86 j = nI (tp.getD j 0)
def TM (I : mj_I) (tp : List Nat) : Prop := I 139 15 = nI tp.length ∧ ∀ j, j < tp.length → I 146 j = nI (tp.getD j 0)
def TF (tp : List Nat) : Prop := tp.length ≤ 400 ∧ ∀ x ∈ tp, x < 256
/-- the rules' rows: five of them, each in one place -/
def RD (r0 r1 r2 r3 rs : Nat) : Prop := [r0, r1, r2, r3, rs].Nodup ∧ ∀ r ∈ [r0, r1, r2, r3, rs], r = 27 ∨ r = 34 ∨ r = 41 ∨ r = 48 ∨ r = 89
/-- the kept world's cells -/
def kwE : mj_S := [(10, 0), (15, 12), (17, 4), (3, 0), (13, 36), (3, 0), (13, 36), (3, 0), (13, 36), (13, 120), (13, 800), (13, 20), (13, 20), (13, 20)] ++ List.replicate 12 (2, 0) ++ [(7, 0), (13, 16), (13, 16), (13, 64), (13, 16), (13, 16), (13, 400), (7, 0), (13, 16), (13, 16), (13, 64), (13, 16), (13, 16), (13, 400), (7, 0), (13, 16), (13, 16), (13, 64), (13, 16), (13, 16), (13, 400), (7, 0), (13, 16), (13, 16), (13, 64), (13, 16), (13, 16), (13, 400)]
def kwP (P : mj_P) : Prop := P 159 0 = some 160 ∧ P 159 1 = some 161 ∧ P 159 2 = some 162 ∧ P 159 3 = some 164 ∧ P 159 4 = some 166 ∧ P 159 5 = some 168 ∧ P 159 6 = some 169 ∧ P 159 7 = some 170 ∧ P 159 8 = some 171 ∧ P 159 9 = some 172 ∧ (∀ l, l < 12 → P 160 l = some (173 + l)) ∧ (∀ k, k < 4 → P 161 k = some (185 + 7 * k)) ∧ P 162 0 = some 163 ∧ P 164 0 = some 165 ∧ P 166 0 = some 167 ∧ ∀ k, k < 4 → P (185 + 7 * k) 0 = some (185 + 7 * k + 1) ∧ P (185 + 7 * k) 1 = some (185 + 7 * k + 2) ∧ P (185 + 7 * k) 2 = some (185 + 7 * k + 3) ∧ P (185 + 7 * k) 3 = some (185 + 7 * k + 4) ∧ P (185 + 7 * k) 4 = some (185 + 7 * k + 5) ∧ P (185 + 7 * k) 5 = some (185 + 7 * k + 6)
/-- the image -/
def IM (e : mj_S) (P : mj_P) (kp : Option Nat) (I : mj_I) (J : mj_J) : Prop := (kp = none ∧ I 139 7 = 0 ∧ e = []) ∨ (kp = some 159 ∧ I 139 7 = 1 ∧ e = kwE ∧ kwP P ∧ ∃ (dy ln : Nat) (sn dr : Int32) (pl sl cl : List Nat) (lf : Nat → Nat → Nat) (bk : Bk) (lk : List Lk) (rl : Nat → List Ru) (cz : Int64), WF dy ln sn dr pl sl cl lf bk lk rl cz ∧ CW I J 159 (fun k => 185 + 7 * k) dy ln sn dr pl sl cl lf bk lk rl cz ∧ MW I J 141 6 dy ln sn dr pl sl cl lf bk lk rl cz)
theorem IM_congr {e : mj_S} {P : mj_P} {kp : Option Nat} {I I' : mj_I} {J J' : mj_J} (h : IM e P kp I J) (h0 : I' 139 7 = I 139 7) (h1 : ∀ b, 159 ≤ b → I' b = I b) (h2 : I' 141 = I 141) (h3 : J' 159 = J 159) (h4 : J' 139 6 = J 139 6) : IM e P kp I' J' := by
  rcases h with ⟨a1, a2, a3⟩ | ⟨a1, a2, a3, a4, dy, ln, sn, dr, pl, sl, cl, lf, bk, lk, rl, cz, a5, a6, a7⟩
  · exact Or.inl ⟨a1, by rw [h0]; exact a2, a3⟩
  · exact Or.inr ⟨a1, by rw [h0]; exact a2, a3, a4, dy, ln, sn, dr, pl, sl, cl, lf, bk, lk, rl, cz, a5, CW_congr a6 a5.2.1 (fun b b1 _ => h1 b b1) (fun k _ b b1 _ => h1 b (by omega)) (by rw [h3]), MW_congr a7 h2 h4⟩
/-- all that holds between two calls -/
def Inv (sh : mj_S) (P : mj_P) (I : mj_I) (J : mj_J) : Prop := ∃ (e : mj_S) (P0 : mj_P) (r0 r1 r2 r3 rs : Nat) (kp : Option Nat) (ps : List Pe) (tp : List Nat) (fk fp : Int32), ∃ (dy ln : Nat) (sn dr : Int32) (pl sl cl : List Nat) (lf : Nat → Nat → Nat) (bk : Bk) (lk : List Lk) (rl : Nat → List Ru) (cz : Int64), sh = sh0 ++ e ∧ P = cp P0 r0 r1 r2 r3 rs kp ∧ RD r0 r1 r2 r3 rs ∧ WF dy ln sn dr pl sl cl lf bk lk rl cz ∧ CW I J 1 (ra r0 r1 r2 r3) dy ln sn dr pl sl cl lf bk lk rl cz ∧ MW I J 140 5 dy ln sn dr pl sl cl lf bk lk rl cz ∧ PF ln ps ∧ PC I J ps ∧ PM I J ps ∧ TF tp ∧ TC I tp ∧ TM I tp ∧ (I 87 7 = fk ∧ I 87 8 = fp ∧ I 139 22 = fk ∧ I 139 24 = fp) ∧ IM e P0 kp I J
theorem RD_ra {r0 r1 r2 r3 rs k : Nat} (h : RD r0 r1 r2 r3 rs) (hk : k < 4) : ra r0 r1 r2 r3 k = 27 ∨ ra r0 r1 r2 r3 k = 34 ∨ ra r0 r1 r2 r3 k = 41 ∨ ra r0 r1 r2 r3 k = 48 ∨ ra r0 r1 r2 r3 k = 89 := by
  apply h.2
  rcases (show k = 0 ∨ k = 1 ∨ k = 2 ∨ k = 3 by omega) with rfl | rfl | rfl | rfl <;> simp [ra]
theorem isR_of {e : mj_S} {P : mj_P} {r0 r1 r2 r3 rs : Nat} {kp : Option Nat} {r : Nat} (h : r = 27 ∨ r = 34 ∨ r = 41 ∨ r = 48 ∨ r = 89) : isR (sh0 ++ e) (cp P r0 r1 r2 r3 rs kp) r := by
  rcases h with rfl | rfl | rfl | rfl | rfl <;> exact ⟨rfl, rfl, rfl, rfl, rfl, rfl, rfl, rfl, rfl, rfl, rfl, rfl, rfl, rfl, rfl, rfl, rfl, rfl, rfl⟩
/-- nothing that is kept has changed -/
def Same (I I' : mj_I) : Prop := (∀ b, (1 ≤ b ∧ b < 85) ∨ b = 86 ∨ (89 ≤ b ∧ b < 96) ∨ (140 ≤ b ∧ b < 144) ∨ b = 146 ∨ 159 ≤ b → I' b = I b) ∧ I' 85 1 = I 85 1 ∧ I' 87 7 = I 87 7 ∧ I' 87 8 = I 87 8 ∧ I' 139 4 = I 139 4 ∧ I' 139 7 = I 139 7 ∧ I' 139 15 = I 139 15 ∧ I' 139 22 = I 139 22 ∧ I' 139 24 = I 139 24
theorem Inv_same {sh : mj_S} {P : mj_P} {I I' : mj_I} {J : mj_J} (h : Inv sh P I J) (hs : Same I I') : Inv sh P I' J := by
  obtain ⟨e, P0, r0, r1, r2, r3, rs, kp, ps, tp, fk, fp, dy, ln, sn, dr, pl, sl, cl, lf, bk, lk, rl, cz, a1, a2, a3, a4, a5, a6, a7, a8, a9, a10, a11, a12, ⟨a13, a14, a15, a16⟩, a17⟩ := h
  obtain ⟨s0, s1, s2, s3, s4, s5, s6, s7, s8⟩ := hs
  refine ⟨e, P0, r0, r1, r2, r3, rs, kp, ps, tp, fk, fp, dy, ln, sn, dr, pl, sl, cl, lf, bk, lk, rl, cz, a1, a2, a3, a4, CW_congr a5 a4.2.1 (fun b b1 b2 => s0 b (by omega)) (fun k hk b b1 b2 => s0 b (by have := RD_ra a3 hk; omega)) rfl, MW_congr a6 (s0 140 (by omega)) rfl, a7, PC_congr a8 (fun b b1 b2 => s0 b (by omega)) rfl, PM_congr a9 s4 (s0 142 (by omega)) rfl, a10, ?_, ?_, ⟨by rw [s2]; exact a13, by rw [s3]; exact a14, by rw [s7]; exact a15, by rw [s8]; exact a16⟩, IM_congr a17 s5 (fun b b1 => s0 b (by omega)) (s0 141 (by omega)) rfl rfl⟩
  · unfold TC
    rw [s1, s0 86 (by omega)]
    exact a11
  · unfold TM
    rw [s6, s0 146 (by omega)]
    exact a12
